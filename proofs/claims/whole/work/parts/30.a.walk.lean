/-! X4_isIn -/
set_option maxHeartbeats 4000000 in
set_option maxRecDepth 100000 in
theorem c_X4_isIn (l : Launch) (D : va_G) (cI : ClassId)   (p0 : Int32) (p1 : Int32) (p2 : Int32) (res : Int32) (h : M_X4_isIn p0 p1 p2 = some res) : mI l yX4_isIn wsX4_isIn { frames := 0, cells := 0, slots := 0, locals := 0 } D cI [.int p0, .int p1, .int p2] [] [] res := by
  intro sz
  refine mStart (cc := cX4_isIn) (maxL := 3) (ret := (some .boolean)) (own := RX4) (by decide) rfl rfl (Nat.le_of_ble_eq_true rfl) (lv := [(0, .int p0), (1, .int p1), (2, .int p2)]) rfl ?_
  intro p e s m args below meth c A ls Q H locs CF hr hlocks hK hP hD hS hA hAe hl hQ
  obtain ⟨hx, hb, hml, hown, hts⟩ := id CF
  unfold M_X4_isIn at h
  refine lv_iload_n hx hb dX4_isIn_0 rfl (lv_at hl 0 rfl) ?_
  refine lv_iload_n hx hb dX4_isIn_1 rfl (lv_at hl 1 rfl) ?_
  refine lv_icmp_lt (tgt := 14) hx hb dX4_isIn_2 (by decide) (fun c2 => ?_) (fun c2 => ?_)
  · replace h := fx_ite_t c2 h
    refine lv_iconst (v := 0) hx hb dX4_isIn_14 (by decide) ?_
    obtain rfl := rtv1 h
    exact rI hQ hx hb hr hlocks hAe hP hS rfl rfl dX4_isIn_15
  · replace h := fx_ite_f c2 h
    refine lv_iload_n hx hb dX4_isIn_5 rfl (lv_at hl 0 rfl) ?_
    refine lv_iload_n hx hb dX4_isIn_6 rfl (lv_at hl 2 rfl) ?_
    refine lv_icmp_gt (tgt := 14) hx hb dX4_isIn_7 (by decide) (fun c7 => ?_) (fun c7 => ?_)
    · replace h := fx_ite_t c7 h
      refine lv_iconst (v := 0) hx hb dX4_isIn_14 (by decide) ?_
      obtain rfl := rtv1 h
      exact rI hQ hx hb hr hlocks hAe hP hS rfl rfl dX4_isIn_15
    · replace h := fx_ite_f c7 h
      refine lv_iconst (v := 1) hx hb dX4_isIn_10 (by decide) ?_
      refine lv_goto (tgt := 15) hx hb dX4_isIn_11 (by decide) ?_
      obtain rfl := rtv1 h
      exact rI hQ hx hb hr hlocks hAe hP hS rfl rfl dX4_isIn_15
/-! X4_least -/
set_option maxHeartbeats 4000000 in
set_option maxRecDepth 100000 in
theorem c_X4_least (l : Launch) (D : va_G) (cI : ClassId)   (p0 : Int32) (p1 : Int32) (res : Int32) (h : M_X4_least p0 p1 = some res) : mI l yX4_least wsX4_least { frames := 0, cells := 0, slots := 0, locals := 0 } D cI [.int p0, .int p1] [] [] res := by
  intro sz
  refine mStart (cc := cX4_least) (maxL := 2) (ret := (some .int)) (own := RX4) (by decide) rfl rfl (Nat.le_of_ble_eq_true rfl) (lv := [(0, .int p0), (1, .int p1)]) rfl ?_
  intro p e s m args below meth c A ls Q H locs CF hr hlocks hK hP hD hS hA hAe hl hQ
  obtain ⟨hx, hb, hml, hown, hts⟩ := id CF
  unfold M_X4_least at h
  refine lv_iload_n hx hb dX4_least_0 rfl (lv_at hl 0 rfl) ?_
  refine lv_iload_n hx hb dX4_least_1 rfl (lv_at hl 1 rfl) ?_
  refine lv_icmp_ge (tgt := 9) hx hb dX4_least_2 (by decide) (fun c2 => ?_) (fun c2 => ?_)
  · replace h := fx_ite_t c2 h
    refine lv_iload_n hx hb dX4_least_9 rfl (lv_at hl 1 rfl) ?_
    obtain rfl := rtv1 h
    exact rI hQ hx hb hr hlocks hAe hP hS rfl rfl dX4_least_10
  · replace h := fx_ite_f c2 h
    refine lv_iload_n hx hb dX4_least_5 rfl (lv_at hl 0 rfl) ?_
    refine lv_goto (tgt := 10) hx hb dX4_least_6 (by decide) ?_
    obtain rfl := rtv1 h
    exact rI hQ hx hb hr hlocks hAe hP hS rfl rfl dX4_least_10
/-! X4_copies -/
set_option maxHeartbeats 4000000 in
set_option maxRecDepth 100000 in
theorem c_X4_copies0 (l : Launch) (D : va_G) (cI : ClassId) (h0 h1 : Nat) (r : (Nat → Int32)) (r2 : (Nat → Int32))  (u_r2 : (Nat → Int32)) (h : M_X4_copies0 r r2 = some u_r2) : mV l yX4_copies wsX4_copies { frames := 0, cells := 0, slots := 0, locals := 0 } D cI [.ref h0, .ref h1] [(h0, .inl (cI, 61, .inl r)), (h1, .inl (cI, 61, .inl r2))] [(h0, .inl (cI, 61, .inl r)), (h1, .inl (cI, 61, .inl u_r2))] := by
  intro sz
  refine mStart (cc := cX4_copies) (maxL := 3) (ret := none) (own := RX4) (by decide) rfl rfl (Nat.le_of_ble_eq_true rfl) (lv := [(0, .ref h0), (1, .ref h1)]) rfl ?_
  intro p e s m args below meth c A ls Q H locs CF hr hlocks hK hP hD hS hA hAe hl hQ
  obtain ⟨hx, hb, hml, hown, hts⟩ := id CF
  have L2 : ∀ (n : Nat)  (x2 : Int32) (r2 : (Nat → Int32)), fuel (fun _ _ => none) (B_X4_copies0_2 r) n x2 r2 = some u_r2 → 
      ∀ (H : Heap) (locs : List Loc) (ls : Array Slot), va_P D vwCl [(h0, .inl (cI, 61, .inl r)), (h1, .inl (cI, 61, .inl r2))] H → va_D A [(h0, .inl (cI, 61, .inl r)), (h1, .inl (cI, 61, .inl r2))] → va_S A s.heap H locs → lv_has ls 3 [(0, .ref h0), (1, .ref h1), (2, .int x2)] → W p l e { frames := 0, cells := 0, slots := 0, locals := 0 } s m args below meth c H locs 0 0 Q (F0 m 2 ls []) := by
    intro n
    induction n with
    | zero =>
      intro x2 r2 h
      exact nomatch (show (none : Option ((Nat → Int32))) = some u_r2 from h)
    | succ n ih =>
      intro x2 r2 h  H locs ls hP hD hS hl
      replace h : B_X4_copies0_2 r (fuel (fun _ _ => none) (B_X4_copies0_2 r) n) x2 r2 = some u_r2 := h
      unfold B_X4_copies0_2 at h
      refine lv_iload_n hx hb dX4_copies_2 rfl (lv_at hl 2 rfl) ?_
      refine lv_bipush (v := 61) hx hb dX4_copies_3 (by decide) ?_
      refine lv_icmp_ge (tgt := 20) hx hb dX4_copies_5 (by decide) (fun c5 => ?_) (fun c5 => ?_)
      · replace h := fx_ite_t c5 h
        obtain rfl := rtv1 h
        exact rV hQ hx hb hr hlocks hAe hP hS dX4_copies_20
      · replace h := fx_ite_f c5 h
        refine lv_aload_n hx hb dX4_copies_8 rfl (lv_at hl 1 rfl) ?_
        refine lv_iload_n hx hb dX4_copies_9 rfl (lv_at hl 2 rfl) ?_
        refine lv_aload_n hx hb dX4_copies_10 rfl (lv_at hl 0 rfl) ?_
        refine lv_iload_n hx hb dX4_copies_11 rfl (lv_at hl 2 rfl) ?_
        obtain ⟨g12, h⟩ := chk_inv h
        refine va_iald (n := 61) (f := r) hx hb hK hP 0 0 rfl rfl g12 dX4_copies_12 ?_
        obtain ⟨g13, h⟩ := chk_inv h
        refine va_iast (n := 61) (f := r2) hx hb hK hP hD hS 1 0 rfl rfl g13 dX4_copies_13 (fun H locs hP hD hS => ?_)
        replace hP : va_P D vwCl [(h0, .inl (cI, 61, .inl r)), (h1, .inl (cI, 61, .inl (upd r2 (Int32.toNatClampNeg x2) (r (Int32.toNatClampNeg x2)))))] H := hP
        replace hD : va_D A [(h0, .inl (cI, 61, .inl r)), (h1, .inl (cI, 61, .inl (upd r2 (Int32.toNatClampNeg x2) (r (Int32.toNatClampNeg x2)))))] := hD
        refine lv_iinc (v := (x2 + 1)) (lv' := [(2, .int (x2 + 1)), (0, .ref h0), (1, .ref h1)]) hx hb dX4_copies_14 hl (k := 2) rfl (by first | rfl | decide) (by decide) rfl (fun ls hl => ?_)
        refine lv_goto (tgt := 2) hx hb dX4_copies_17 (by decide) ?_
        exact ih _ _ h  _ _ _ hP hD hS (lv_sub hl [1, 2, 0] rfl)
  unfold M_X4_copies0 at h
  refine lv_iconst (v := 0) hx hb dX4_copies_0 (by decide) ?_
  refine lv_istore_n (lv' := [(2, .int (0 : Int32)), (0, .ref h0), (1, .ref h1)]) hx hb dX4_copies_1 rfl hl (by decide) rfl (fun ls hl => ?_)
  exact L2 FU _ _ h  _ _ _ hP hD hS (lv_sub hl [1, 2, 0] rfl)
theorem copies0_step (r : Nat → Int32) : ∀ (n i : Nat) (r2 : Nat → Int32), i + n = 61 → ∀ k, n < k → (∀ j, j < i → r2 j = r j) → ∃ g, fuel (fun _ _ => none) (B_X4_copies0_2 r) k (nI i) r2 = some g ∧ ∀ j, j < 61 → g j = r j := by
  intro n
  induction n with
  | zero =>
    intro i r2 hi k hk hj
    obtain ⟨k, rfl⟩ : ∃ q, k = q + 1 := ⟨k - 1, by omega⟩
    have e : i = 61 := by omega
    subst e
    refine ⟨r2, ?_, hj⟩
    show B_X4_copies0_2 r _ (nI 61) r2 = some r2
    unfold B_X4_copies0_2
    exact if_pos (by decide)
  | succ n ih =>
    intro i r2 hi k hk hj
    obtain ⟨k, rfl⟩ : ∃ q, k = q + 1 := ⟨k - 1, by omega⟩
    have hi31 : i < 2 ^ 31 := by omega
    obtain ⟨g, h1, h2⟩ := ih (i + 1) (upd r2 i (r i)) (by omega) k (by omega) (fun j hj2 => by
      by_cases hij : j = i
      · subst hij; exact pk_us
      · rw [pk_un hij]; exact hj j (by omega))
    refine ⟨g, ?_, h2⟩
    rw [← h1]
    show B_X4_copies0_2 r _ (nI i) r2 = _
    unfold B_X4_copies0_2
    have hn : ¬ (61 : Int32) ≤ nI i := by
      rw [show (61 : Int32) = nI 61 from rfl, nI_leI (by omega) hi31]
      omega
    rw [if_neg hn]
    have hc : ¬ (nI i < 0 ∨ 61 ≤ (nI i).toNatClampNeg) := nI_in (by omega) (by omega)
    unfold chk
    rw [if_neg hc, if_neg hc, nI_clamp hi31, nI_1]
set_option maxHeartbeats 4000000 in
theorem c_X4_copies (l : Launch) (D : va_G) (cI : ClassId) (h0 h1 : Nat) (r : Nat → Int32) (r2 : Nat → Int32) (u_r2 : Nat → Int32) (h : M_X4_copies r r2 = some u_r2) : mV l yX4_copies wsX4_copies { frames := 0, cells := 0, slots := 0, locals := 0 } D cI [.ref h0, .ref h1] [(h0, .inl (cI, 61, .inl r)), (h1, .inl (cI, 61, .inl r2))] [(h0, .inl (cI, 61, .inl r)), (h1, .inl (cI, 61, .inl u_r2))] := by
  obtain rfl := ret1 h
  obtain ⟨g, h1', h2'⟩ := copies0_step u_r2 61 0 r2 (by omega) FU (by decide) (fun j hj => absurd hj (Nat.not_lt_zero j))
  have h3 := c_X4_copies0 l D cI h0 h1 u_r2 r2 g (by unfold M_X4_copies0; exact h1')
  intro sz
  have h4 := h3 sz
  have e : (fun (_ : Unit) (t : State) => va_P D vwCl [(h0, .inl (cI, 61, .inl u_r2)), (h1, .inl (cI, 61, .inl g))] t.heap) = (fun (_ : Unit) (t : State) => va_P D vwCl [(h0, .inl (cI, 61, .inl u_r2)), (h1, .inl (cI, 61, .inl u_r2))] t.heap) := by
    have ec : vp_cell cI (61, .inl g) = vp_cell cI (61, .inl u_r2) := fx_cell h2'
    funext _ t
    refine propext ⟨fun q k x hk => ?_, fun q k x hk => ?_⟩
    · match k, hk with
      | 0, hk => exact q 0 x hk
      | 1, hk =>
        cases hk
        have := q 1 _ rfl
        show t.heap[h1]? = some (vp_cell cI (61, .inl u_r2))
        rw [← ec]
        exact this
      | k + 2, hk => simp at hk
    · match k, hk with
      | 0, hk => exact q 0 x hk
      | 1, hk =>
        cases hk
        have := q 1 _ rfl
        show t.heap[h1]? = some (vp_cell cI (61, .inl g))
        rw [ec]
        exact this
      | k + 2, hk => simp at hk
  unfold mQv at h4 ⊢
  rw [e] at h4
  exact h4
/-! X4_no -/
set_option maxHeartbeats 4000000 in
set_option maxRecDepth 100000 in
theorem c_X4_no (l : Launch) (D : va_G) (cI : ClassId) (a : Nat → Nat) (ss : (Nat → Int32)) (mm : (Nat → Int32)) (im : (Nat → Int32)) (wa : (Nat → Int32)) (hi : Int32) (le : (Nat → Int32)) (ro : (Nat → Int32)) (re : (Nat → Int32)) (lm : Int32) (rm : Int32) (pl : Int32) (nu : (Nat → Int32)) (gi : (Nat → Int32)) (bg : (Nat → Int32)) (bm : Int32) (sd : Int32) (p1 : Int32) (res : Int32) (u_re : (Nat → Int32)) (h : M_X4_no re p1 = some (res, u_re)) : mI l yX4_no wsX4_no { frames := 0, cells := 0, slots := 0, locals := 0 } D cI [.ref (a 0), .int p1] (cM a cI ss mm im wa hi le ro re lm rm pl nu gi bg bm sd) (cM a cI ss mm im wa hi le ro u_re lm rm pl nu gi bg bm sd) res := by
  intro sz
  refine mStart (cc := cX4_no) (maxL := 2) (ret := (some .int)) (own := RX4) (by decide) rfl rfl (Nat.le_of_ble_eq_true rfl) (lv := [(0, .ref (a 0)), (1, .int p1)]) rfl ?_
  intro p e s m args below meth c A ls Q H locs CF hr hlocks hK hP hD hS hA hAe hl hQ
  obtain ⟨hx, hb, hml, hown, hts⟩ := id CF
  have f28 := hts (.fieldLink RX4 28 "MendAnothersBreakingModel" "refused" "[I") (List.mem_of_getElem? (i := 1) rfl)
  have i4 : ∀ w ∈ wsX40, w ∈ wsX4_no := fun w h => List.mem_cons_of_mem _ (List.mem_append_right _ h)
  unfold M_X4_no at h
  refine lv_aload_n hx hb dX4_no_0 rfl (lv_at hl 0 rfl) ?_
  refine va_get (D := D) (ci := 4) (v := .ref (a 7)) (C := RX4) (T := TX4) (N := 16) hx hb hts i4 hown hK hP 0 rfl rfl 7 (by decide) f28 (fun _ h9 => h9) rfl dX4_no_1 ?_
  refine lv_iload_n hx hb dX4_no_4 rfl (lv_at hl 1 rfl) ?_
  refine lv_ineg hx hb dX4_no_5 ?_
  refine lv_dup2_11 hx hb dX4_no_6 rfl rfl ?_
  obtain ⟨g7, h⟩ := chk_inv h
  refine va_iald (n := 7) (f := re) hx hb hK hP 7 0 rfl rfl g7 dX4_no_7 ?_
  refine lv_iconst (v := 1) hx hb dX4_no_8 (by decide) ?_
  refine lv_iadd hx hb dX4_no_9 ?_
  obtain ⟨g10, h⟩ := chk_inv h
  refine va_iast (n := 7) (f := re) hx hb hK hP hD hS 7 0 rfl rfl g10 dX4_no_10 (fun H locs hP hD hS => ?_)
  replace hP : va_P D vwCl (cM a cI ss mm im wa hi le ro (upd re (Int32.toNatClampNeg (-p1)) ((re (Int32.toNatClampNeg (-p1))) + (1 : Int32))) lm rm pl nu gi bg bm sd) H := hP
  replace hD : va_D A (cM a cI ss mm im wa hi le ro (upd re (Int32.toNatClampNeg (-p1)) ((re (Int32.toNatClampNeg (-p1))) + (1 : Int32))) lm rm pl nu gi bg bm sd) := hD
  refine lv_iload_n hx hb dX4_no_11 rfl (lv_at hl 1 rfl) ?_
  obtain ⟨rfl, rfl⟩ := rtv2 h
  exact rI hQ hx hb hr hlocks hAe hP hS rfl rfl dX4_no_12
/-! X4_noFar -/
set_option maxHeartbeats 4000000 in
set_option maxRecDepth 100000 in
theorem c_X4_noFar (l : Launch) (D : va_G) (cI : ClassId) (a : Nat → Nat) (ss : (Nat → Int32)) (mm : (Nat → Int32)) (im : (Nat → Int32)) (wa : (Nat → Int32)) (hi : Int32) (le : (Nat → Int32)) (ro : (Nat → Int32)) (re : (Nat → Int32)) (lm : Int32) (rm : Int32) (pl : Int32) (nu : (Nat → Int32)) (gi : (Nat → Int32)) (bg : (Nat → Int32)) (bm : Int32) (sd : Int32) (p1 : Int32) (res : Int32) (u_re : (Nat → Int32)) (h : M_X4_noFar re p1 = some (res, u_re)) : mI l yX4_noFar wsX4_noFar { frames := 1, cells := 0, slots := 0, locals := 21 } D cI [.ref (a 0), .int p1] (cM a cI ss mm im wa hi le ro re lm rm pl nu gi bg bm sd) (cM a cI ss mm im wa hi le ro u_re lm rm pl nu gi bg bm sd) res := by
  intro sz
  refine mStart (cc := cX4_noFar) (maxL := 2) (ret := (some .int)) (own := RX4) (by decide) rfl rfl (Nat.le_of_ble_eq_true rfl) (lv := [(0, .ref (a 0)), (1, .int p1)]) rfl ?_
  intro p e s m args below meth c A ls Q H locs CF hr hlocks hK hP hD hS hA hAe hl hQ
  obtain ⟨hx, hb, hml, hown, hts⟩ := id CF
  have k40 := hts (.constant RX4 40 (1000000000)) (List.mem_of_getElem? (i := 1) rfl)
  unfold M_X4_noFar at h
  refine lv_ldc (v := 1000000000) hx hb hown k40 dX4_noFar_0 ?_
  refine lv_aload_n hx hb dX4_noFar_2 rfl (lv_at hl 0 rfl) ?_
  refine lv_iload_n hx hb dX4_noFar_3 rfl (lv_at hl 1 rfl) ?_
  obtain ⟨r4, u4_re, q4, h⟩ := bnd2_inv h
  refine kVI (n := 1) (As := [.int p1]) (rest := [.int (1000000000 : Int32)]) CF hl hK hP hD hS hA (c_X4_no l D cI a ss mm im wa hi le ro re lm rm pl nu gi bg bm sd p1 r4 u4_re q4) gX4_noFar_X4_no rfl dX4_noFar_4 (by decide +kernel) ⟨⟨rfl, rfl⟩, ⟨Nat.le_of_ble_eq_true rfl, Nat.le_of_ble_eq_true rfl⟩, Nat.zero_le _, Nat.zero_le _⟩ (JN.whole (w1 := (cM a cI ss mm im wa hi le ro u4_re lm rm pl nu gi bg bm sd)) rfl) 0 rfl ⟨rfl, rfl⟩ rfl rfl (Nat.le_of_ble_eq_true rfl) (fun H locs hP hD hS => ?_)
  replace hP : va_P D vwCl (cM a cI ss mm im wa hi le ro u4_re lm rm pl nu gi bg bm sd) H := hP
  replace hD : va_D A (cM a cI ss mm im wa hi le ro u4_re lm rm pl nu gi bg bm sd) := hD
  refine lv_isub hx hb dX4_noFar_7 ?_
  obtain ⟨rfl, rfl⟩ := rtv2 h
  exact rI hQ hx hb hr hlocks hAe hP hS rfl rfl dX4_noFar_8
/-! X4_noWide -/
set_option maxHeartbeats 4000000 in
set_option maxRecDepth 100000 in
theorem c_X4_noWide (l : Launch) (D : va_G) (cI : ClassId) (a : Nat → Nat) (ss : (Nat → Int32)) (mm : (Nat → Int32)) (im : (Nat → Int32)) (wa : (Nat → Int32)) (hi : Int32) (le : (Nat → Int32)) (ro : (Nat → Int32)) (re : (Nat → Int32)) (lm : Int32) (rm : Int32) (pl : Int32) (nu : (Nat → Int32)) (gi : (Nat → Int32)) (bg : (Nat → Int32)) (bm : Int32) (sd : Int32) (p1 : Int32) (res : Int64) (u_re : (Nat → Int32)) (h : M_X4_noWide re p1 = some (res, u_re)) : mL l yX4_noWide wsX4_noWide { frames := 1, cells := 0, slots := 0, locals := 21 } D cI [.ref (a 0), .int p1] (cM a cI ss mm im wa hi le ro re lm rm pl nu gi bg bm sd) (cM a cI ss mm im wa hi le ro u_re lm rm pl nu gi bg bm sd) res := by
  intro sz
  refine mStart (cc := cX4_noWide) (maxL := 2) (ret := (some .long)) (own := RX4) (by decide) rfl rfl (Nat.le_of_ble_eq_true rfl) (lv := [(0, .ref (a 0)), (1, .int p1)]) rfl ?_
  intro p e s m args below meth c A ls Q H locs CF hr hlocks hK hP hD hS hA hAe hl hQ
  obtain ⟨hx, hb, hml, hown, hts⟩ := id CF
  have k45 := hts (.constantLong RX4 45 (4000000000000000000)) (List.mem_of_getElem? (i := 1) rfl)
  unfold M_X4_noWide at h
  refine lv_ldc2 (v := 4000000000000000000) hx hb hown k45 dX4_noWide_0 ?_
  refine lv_aload_n hx hb dX4_noWide_3 rfl (lv_at hl 0 rfl) ?_
  refine lv_iload_n hx hb dX4_noWide_4 rfl (lv_at hl 1 rfl) ?_
  obtain ⟨r5, u5_re, q5, h⟩ := bnd2_inv h
  refine kVI (n := 1) (As := [.int p1]) (rest := [.long (4000000000000000000 : Int64)]) CF hl hK hP hD hS hA (c_X4_no l D cI a ss mm im wa hi le ro re lm rm pl nu gi bg bm sd p1 r5 u5_re q5) gX4_noWide_X4_no rfl dX4_noWide_5 (by decide +kernel) ⟨⟨rfl, rfl⟩, ⟨Nat.le_of_ble_eq_true rfl, Nat.le_of_ble_eq_true rfl⟩, Nat.zero_le _, Nat.zero_le _⟩ (JN.whole (w1 := (cM a cI ss mm im wa hi le ro u5_re lm rm pl nu gi bg bm sd)) rfl) 0 rfl ⟨rfl, rfl⟩ rfl rfl (Nat.le_of_ble_eq_true rfl) (fun H locs hP hD hS => ?_)
  replace hP : va_P D vwCl (cM a cI ss mm im wa hi le ro u5_re lm rm pl nu gi bg bm sd) H := hP
  replace hD : va_D A (cM a cI ss mm im wa hi le ro u5_re lm rm pl nu gi bg bm sd) := hD
  refine lv_i2l hx hb dX4_noWide_8 rfl ?_
  refine lv_lsub hx hb dX4_noWide_9 ?_
  obtain ⟨rfl, rfl⟩ := rtv2 h
  exact rL hQ hx hb hr hlocks hAe hP hS rfl dX4_noWide_10
/-! X4_ofP -/
set_option maxHeartbeats 4000000 in
set_option maxRecDepth 100000 in
theorem c_X4_ofP (l : Launch) (D : va_G) (cI : ClassId)   (p0 : Int32) (res : Int32) (h : M_X4_ofP p0 = some res) : mI l yX4_ofP wsX4_ofP { frames := 0, cells := 0, slots := 0, locals := 0 } D cI [.int p0] [] [] res := by
  intro sz
  refine mStart (cc := cX4_ofP) (maxL := 1) (ret := (some .int)) (own := RX4) (by decide) rfl rfl (Nat.le_of_ble_eq_true rfl) (lv := [(0, .int p0)]) rfl ?_
  intro p e s m args below meth c A ls Q H locs CF hr hlocks hK hP hD hS hA hAe hl hQ
  obtain ⟨hx, hb, hml, hown, hts⟩ := id CF
  unfold M_X4_ofP at h
  refine lv_iconst (v := 4) hx hb dX4_ofP_0 (by decide) ?_
  refine lv_iconst (v := 2) hx hb dX4_ofP_1 (by decide) ?_
  refine lv_iload_n hx hb dX4_ofP_2 rfl (lv_at hl 0 rfl) ?_
  refine lv_imul hx hb dX4_ofP_3 ?_
  refine lv_iadd hx hb dX4_ofP_4 ?_
  obtain rfl := rtv1 h
  exact rI hQ hx hb hr hlocks hAe hP hS rfl rfl dX4_ofP_5
/-! X4_ofT -/
set_option maxHeartbeats 4000000 in
set_option maxRecDepth 100000 in
theorem c_X4_ofT (l : Launch) (D : va_G) (cI : ClassId)   (p0 : Int32) (res : Int32) (h : M_X4_ofT p0 = some res) : mI l yX4_ofT wsX4_ofT { frames := 0, cells := 0, slots := 0, locals := 0 } D cI [.int p0] [] [] res := by
  intro sz
  refine mStart (cc := cX4_ofT) (maxL := 1) (ret := (some .int)) (own := RX4) (by decide) rfl rfl (Nat.le_of_ble_eq_true rfl) (lv := [(0, .int p0)]) rfl ?_
  intro p e s m args below meth c A ls Q H locs CF hr hlocks hK hP hD hS hA hAe hl hQ
  obtain ⟨hx, hb, hml, hown, hts⟩ := id CF
  unfold M_X4_ofT at h
  refine lv_bipush (v := 16) hx hb dX4_ofT_0 (by decide) ?_
  refine lv_iconst (v := 5) hx hb dX4_ofT_2 (by decide) ?_
  refine lv_iload_n hx hb dX4_ofT_3 rfl (lv_at hl 0 rfl) ?_
  refine lv_imul hx hb dX4_ofT_4 ?_
  refine lv_iadd hx hb dX4_ofT_5 ?_
  obtain rfl := rtv1 h
  exact rI hQ hx hb hr hlocks hAe hP hS rfl rfl dX4_ofT_6
/-! X4_isPerson -/
set_option maxHeartbeats 4000000 in
set_option maxRecDepth 100000 in
theorem c_X4_isPerson (l : Launch) (D : va_G) (cI : ClassId) (a : Nat → Nat) (ss : (Nat → Int32)) (mm : (Nat → Int32)) (im : (Nat → Int32)) (wa : (Nat → Int32)) (hi : Int32) (le : (Nat → Int32)) (ro : (Nat → Int32)) (re : (Nat → Int32)) (lm : Int32) (rm : Int32) (pl : Int32) (nu : (Nat → Int32)) (gi : (Nat → Int32)) (bg : (Nat → Int32)) (bm : Int32) (sd : Int32) (p1 : Int32) (res : Int32) (h : M_X4_isPerson ss p1 = some res) : mI l yX4_isPerson wsX4_isPerson { frames := 1, cells := 0, slots := 0, locals := 22 } D cI [.ref (a 0), .int p1] (cM a cI ss mm im wa hi le ro re lm rm pl nu gi bg bm sd) (cM a cI ss mm im wa hi le ro re lm rm pl nu gi bg bm sd) res := by
  intro sz
  refine mStart (cc := cX4_isPerson) (maxL := 2) (ret := (some .boolean)) (own := RX4) (by decide) rfl rfl (Nat.le_of_ble_eq_true rfl) (lv := [(0, .ref (a 0)), (1, .int p1)]) rfl ?_
  intro p e s m args below meth c A ls Q H locs CF hr hlocks hK hP hD hS hA hAe hl hQ
  obtain ⟨hx, hb, hml, hown, hts⟩ := id CF
  have f9 := hts (.fieldLink RX4 9 "MendAnothersBreakingModel" "s" "[I") (List.mem_of_getElem? (i := 1) rfl)
  have i4 : ∀ w ∈ wsX40, w ∈ wsX4_isPerson := fun w h => List.mem_cons_of_mem _ (List.mem_append_right _ h)
  unfold M_X4_isPerson at h
  refine lv_iload_n hx hb dX4_isPerson_0 rfl (lv_at hl 1 rfl) ?_
  refine lv_iconst (v := 0) hx hb dX4_isPerson_1 (by decide) ?_
  refine lv_aload_n hx hb dX4_isPerson_2 rfl (lv_at hl 0 rfl) ?_
  refine va_get (D := D) (ci := 4) (v := .ref (a 1)) (C := RX4) (T := TX4) (N := 16) hx hb hts i4 hown hK hP 0 rfl rfl 0 (by decide) f9 (fun _ h9 => h9) rfl dX4_isPerson_3 ?_
  refine lv_iconst (v := 0) hx hb dX4_isPerson_6 (by decide) ?_
  refine ald (n := 61) (f := ss) (k := 0) hx hb hK hP 1 0 rfl rfl (fx_lit rfl) rfl dX4_isPerson_7 ?_
  refine lv_iconst (v := 1) hx hb dX4_isPerson_8 (by decide) ?_
  refine lv_isub hx hb dX4_isPerson_9 ?_
  obtain ⟨r10, q10, h⟩ := bnd1_inv h
  refine kSI (n := 3) (As := [.int p1, .int (0 : Int32), .int ((ss 0) - (1 : Int32))]) (rest := []) CF hl hK hP hD hS hA (c_X4_isIn l D cI   p1 (0 : Int32) ((ss 0) - (1 : Int32)) r10 q10) gX4_isPerson_X4_isIn rfl dX4_isPerson_10 (by decide +kernel) ⟨⟨rfl, rfl⟩, ⟨Nat.le_of_ble_eq_true rfl, Nat.le_of_ble_eq_true rfl⟩, Nat.zero_le _, Nat.zero_le _⟩ (JN.ro [] rfl rfl) rfl rfl (Nat.le_of_ble_eq_true rfl) (fun H locs hP hD hS => ?_)
  obtain ⟨z13, h⟩ := zch_inv h
  obtain rfl := rtv1 h
  exact rI hQ hx hb hr hlocks hAe hP hS (fx_zn z13) rfl dX4_isPerson_13
/-! X4_isThing -/
set_option maxHeartbeats 4000000 in
set_option maxRecDepth 100000 in
theorem c_X4_isThing (l : Launch) (D : va_G) (cI : ClassId) (a : Nat → Nat) (ss : (Nat → Int32)) (mm : (Nat → Int32)) (im : (Nat → Int32)) (wa : (Nat → Int32)) (hi : Int32) (le : (Nat → Int32)) (ro : (Nat → Int32)) (re : (Nat → Int32)) (lm : Int32) (rm : Int32) (pl : Int32) (nu : (Nat → Int32)) (gi : (Nat → Int32)) (bg : (Nat → Int32)) (bm : Int32) (sd : Int32) (p1 : Int32) (res : Int32) (h : M_X4_isThing ss p1 = some res) : mI l yX4_isThing wsX4_isThing { frames := 1, cells := 0, slots := 0, locals := 22 } D cI [.ref (a 0), .int p1] (cM a cI ss mm im wa hi le ro re lm rm pl nu gi bg bm sd) (cM a cI ss mm im wa hi le ro re lm rm pl nu gi bg bm sd) res := by
  intro sz
  refine mStart (cc := cX4_isThing) (maxL := 2) (ret := (some .boolean)) (own := RX4) (by decide) rfl rfl (Nat.le_of_ble_eq_true rfl) (lv := [(0, .ref (a 0)), (1, .int p1)]) rfl ?_
  intro p e s m args below meth c A ls Q H locs CF hr hlocks hK hP hD hS hA hAe hl hQ
  obtain ⟨hx, hb, hml, hown, hts⟩ := id CF
  have f9 := hts (.fieldLink RX4 9 "MendAnothersBreakingModel" "s" "[I") (List.mem_of_getElem? (i := 1) rfl)
  have i4 : ∀ w ∈ wsX40, w ∈ wsX4_isThing := fun w h => List.mem_cons_of_mem _ (List.mem_append_right _ h)
  unfold M_X4_isThing at h
  refine lv_iload_n hx hb dX4_isThing_0 rfl (lv_at hl 1 rfl) ?_
  refine lv_iconst (v := 0) hx hb dX4_isThing_1 (by decide) ?_
  refine lv_aload_n hx hb dX4_isThing_2 rfl (lv_at hl 0 rfl) ?_
  refine va_get (D := D) (ci := 4) (v := .ref (a 1)) (C := RX4) (T := TX4) (N := 16) hx hb hts i4 hown hK hP 0 rfl rfl 0 (by decide) f9 (fun _ h9 => h9) rfl dX4_isThing_3 ?_
  refine lv_iconst (v := 1) hx hb dX4_isThing_6 (by decide) ?_
  refine ald (n := 61) (f := ss) (k := 1) hx hb hK hP 1 0 rfl rfl (fx_lit rfl) rfl dX4_isThing_7 ?_
  refine lv_iconst (v := 1) hx hb dX4_isThing_8 (by decide) ?_
  refine lv_isub hx hb dX4_isThing_9 ?_
  obtain ⟨r10, q10, h⟩ := bnd1_inv h
  refine kSI (n := 3) (As := [.int p1, .int (0 : Int32), .int ((ss 1) - (1 : Int32))]) (rest := []) CF hl hK hP hD hS hA (c_X4_isIn l D cI   p1 (0 : Int32) ((ss 1) - (1 : Int32)) r10 q10) gX4_isThing_X4_isIn rfl dX4_isThing_10 (by decide +kernel) ⟨⟨rfl, rfl⟩, ⟨Nat.le_of_ble_eq_true rfl, Nat.le_of_ble_eq_true rfl⟩, Nat.zero_le _, Nat.zero_le _⟩ (JN.ro [] rfl rfl) rfl rfl (Nat.le_of_ble_eq_true rfl) (fun H locs hP hD hS => ?_)
  obtain ⟨z13, h⟩ := zch_inv h
  obtain rfl := rtv1 h
  exact rI hQ hx hb hr hlocks hAe hP hS (fx_zn z13) rfl dX4_isThing_13
/-! X4_has -/
set_option maxHeartbeats 4000000 in
set_option maxRecDepth 100000 in
theorem c_X4_has (l : Launch) (D : va_G) (cI : ClassId)   (p0 : Int32) (p1 : Int32) (res : Int32) (h : M_X4_has p0 p1 = some res) : mI l yX4_has wsX4_has { frames := 0, cells := 0, slots := 0, locals := 0 } D cI [.int p0, .int p1] [] [] res := by
  intro sz
  refine mStart (cc := cX4_has) (maxL := 2) (ret := (some .boolean)) (own := RX4) (by decide) rfl rfl (Nat.le_of_ble_eq_true rfl) (lv := [(0, .int p0), (1, .int p1)]) rfl ?_
  intro p e s m args below meth c A ls Q H locs CF hr hlocks hK hP hD hS hA hAe hl hQ
  obtain ⟨hx, hb, hml, hown, hts⟩ := id CF
  unfold M_X4_has at h
  refine lv_iload_n hx hb dX4_has_0 rfl (lv_at hl 0 rfl) ?_
  refine lv_iload_n hx hb dX4_has_1 rfl (lv_at hl 1 rfl) ?_
  refine lv_ishr hx hb dX4_has_2 ?_
  refine lv_iconst (v := 1) hx hb dX4_has_3 (by decide) ?_
  refine lv_iand hx hb dX4_has_4 ?_
  refine lv_iconst (v := 1) hx hb dX4_has_5 (by decide) ?_
  refine lv_icmp_ne (tgt := 13) hx hb dX4_has_6 (by decide) (fun c6 => ?_) (fun c6 => ?_)
  · replace h := fx_ite_f c6 h
    refine lv_iconst (v := 0) hx hb dX4_has_13 (by decide) ?_
    obtain rfl := rtv1 h
    exact rI hQ hx hb hr hlocks hAe hP hS rfl rfl dX4_has_14
  · replace h := fx_ite_t c6 h
    refine lv_iconst (v := 1) hx hb dX4_has_9 (by decide) ?_
    refine lv_goto (tgt := 14) hx hb dX4_has_10 (by decide) ?_
    obtain rfl := rtv1 h
    exact rI hQ hx hb hr hlocks hAe hP hS rfl rfl dX4_has_14
/-! X4_bits -/
set_option maxHeartbeats 4000000 in
set_option maxRecDepth 100000 in
theorem c_X4_bits (l : Launch) (D : va_G) (cI : ClassId)   (p0 : Int32) (res : Int32) (h : M_X4_bits p0 = some res) : mI l yX4_bits wsX4_bits { frames := 0, cells := 0, slots := 0, locals := 0 } D cI [.int p0] [] [] res := by
  intro sz
  refine mStart (cc := cX4_bits) (maxL := 3) (ret := (some .int)) (own := RX4) (by decide) rfl rfl (Nat.le_of_ble_eq_true rfl) (lv := [(0, .int p0)]) rfl ?_
  intro p e s m args below meth c A ls Q H locs CF hr hlocks hK hP hD hS hA hAe hl hQ
  obtain ⟨hx, hb, hml, hown, hts⟩ := id CF
  have L4 : ∀ (n : Nat) (x0 : Int32) (x1 : Int32) (x2 : Int32), fuel (fun _ _ => none) (B_X4_bits_4 x0) n x1 x2 = some res → 
      ∀ (H : Heap) (locs : List Loc) (ls : Array Slot), va_P D vwCl [] H → va_D A [] → va_S A s.heap H locs → lv_has ls 3 [(0, .int x0), (1, .int x1), (2, .int x2)] → W p l e { frames := 0, cells := 0, slots := 0, locals := 0 } s m args below meth c H locs 0 0 Q (F0 m 4 ls []) := by
    intro n
    induction n with
    | zero =>
      intro x0 x1 x2 h
      exact nomatch (show (none : Option (Int32)) = some res from h)
    | succ n ih =>
      intro x0 x1 x2 h  H locs ls hP hD hS hl
      replace h : B_X4_bits_4 x0 (fuel (fun _ _ => none) (B_X4_bits_4 x0) n) x1 x2 = some res := h
      unfold B_X4_bits_4 at h
      refine lv_iload_n hx hb dX4_bits_4 rfl (lv_at hl 2 rfl) ?_
      refine lv_bipush (v := 9) hx hb dX4_bits_5 (by decide) ?_
      refine lv_icmp_ge (tgt := 24) hx hb dX4_bits_7 (by decide) (fun c7 => ?_) (fun c7 => ?_)
      · replace h := fx_ite_t c7 h
        refine lv_iload_n hx hb dX4_bits_24 rfl (lv_at hl 1 rfl) ?_
        obtain rfl := rtv1 h
        exact rI hQ hx hb hr hlocks hAe hP hS rfl rfl dX4_bits_25
      · replace h := fx_ite_f c7 h
        refine lv_iload_n hx hb dX4_bits_10 rfl (lv_at hl 1 rfl) ?_
        refine lv_iload_n hx hb dX4_bits_11 rfl (lv_at hl 0 rfl) ?_
        refine lv_iload_n hx hb dX4_bits_12 rfl (lv_at hl 2 rfl) ?_
        refine lv_ishr hx hb dX4_bits_13 ?_
        refine lv_iconst (v := 1) hx hb dX4_bits_14 (by decide) ?_
        refine lv_iand hx hb dX4_bits_15 ?_
        refine lv_iadd hx hb dX4_bits_16 ?_
        refine lv_istore_n (lv' := [(1, .int (x1 + ((x0 >>> (x2 &&& 31)) &&& (1 : Int32)))), (0, .int x0), (2, .int x2)]) hx hb dX4_bits_17 rfl hl (by decide) rfl (fun ls hl => ?_)
        refine lv_iinc (v := (x2 + 1)) (lv' := [(2, .int (x2 + 1)), (1, .int (x1 + ((x0 >>> (x2 &&& 31)) &&& (1 : Int32)))), (0, .int x0)]) hx hb dX4_bits_18 hl (k := 2) rfl (by first | rfl | decide) (by decide) rfl (fun ls hl => ?_)
        refine lv_goto (tgt := 4) hx hb dX4_bits_21 (by decide) ?_
        exact ih _ _ _ h  _ _ _ hP hD hS (lv_sub hl [2, 1, 0] rfl)
  unfold M_X4_bits at h
  refine lv_iconst (v := 0) hx hb dX4_bits_0 (by decide) ?_
  refine lv_istore_n (lv' := [(1, .int (0 : Int32)), (0, .int p0)]) hx hb dX4_bits_1 rfl hl (by decide) rfl (fun ls hl => ?_)
  refine lv_iconst (v := 0) hx hb dX4_bits_2 (by decide) ?_
  refine lv_istore_n (lv' := [(2, .int (0 : Int32)), (1, .int (0 : Int32)), (0, .int p0)]) hx hb dX4_bits_3 rfl hl (by decide) rfl (fun ls hl => ?_)
  exact L4 FU _ _ _ h  _ _ _ hP hD hS (lv_sub hl [2, 1, 0] rfl)
/-! X4_isWhole -/
set_option maxHeartbeats 4000000 in
set_option maxRecDepth 100000 in
theorem c_X4_isWhole (l : Launch) (D : va_G) (cI : ClassId) (h0 : Nat) (r : (Nat → Int32)) (p1 : Int32) (res : Int32) (h : M_X4_isWhole r p1 = some res) : mI l yX4_isWhole wsX4_isWhole { frames := 1, cells := 0, slots := 0, locals := 20 } D cI [.ref h0, .int p1] [(h0, .inl (cI, 61, .inl r))] [(h0, .inl (cI, 61, .inl r))] res := by
  intro sz
  refine mStart (cc := cX4_isWhole) (maxL := 2) (ret := (some .boolean)) (own := RX4) (by decide) rfl rfl (Nat.le_of_ble_eq_true rfl) (lv := [(0, .ref h0), (1, .int p1)]) rfl ?_
  intro p e s m args below meth c A ls Q H locs CF hr hlocks hK hP hD hS hA hAe hl hQ
  obtain ⟨hx, hb, hml, hown, hts⟩ := id CF
  unfold M_X4_isWhole at h
  refine lv_aload_n hx hb dX4_isWhole_0 rfl (lv_at hl 0 rfl) ?_
  refine lv_iload_n hx hb dX4_isWhole_1 rfl (lv_at hl 1 rfl) ?_
  obtain ⟨r2, q2, h⟩ := bnd1_inv h
  refine kSI (n := 1) (As := [.int p1]) (rest := [.ref h0]) CF hl hK hP hD hS hA (c_X4_ofT l D cI   p1 r2 q2) gX4_isWhole_X4_ofT rfl dX4_isWhole_2 (by decide +kernel) ⟨⟨rfl, rfl⟩, ⟨Nat.le_of_ble_eq_true rfl, Nat.le_of_ble_eq_true rfl⟩, Nat.zero_le _, Nat.zero_le _⟩ (JN.ro [] rfl rfl) rfl rfl (Nat.le_of_ble_eq_true rfl) (fun H locs hP hD hS => ?_)
  refine lv_iconst (v := 4) hx hb dX4_isWhole_5 (by decide) ?_
  refine lv_iadd hx hb dX4_isWhole_6 ?_
  obtain ⟨g7, h⟩ := chk_inv h
  refine va_iald (n := 61) (f := r) hx hb hK hP 0 0 rfl rfl g7 dX4_isWhole_7 ?_
  refine lv_bipush (v := (-9)) hx hb dX4_isWhole_8 (by decide) ?_
  refine lv_icmp_ne (tgt := 17) hx hb dX4_isWhole_10 (by decide) (fun c10 => ?_) (fun c10 => ?_)
  · replace h := fx_ite_f c10 h
    refine lv_iconst (v := 0) hx hb dX4_isWhole_17 (by decide) ?_
    obtain rfl := rtv1 h
    exact rI hQ hx hb hr hlocks hAe hP hS rfl rfl dX4_isWhole_18
  · replace h := fx_ite_t c10 h
    refine lv_iconst (v := 1) hx hb dX4_isWhole_13 (by decide) ?_
    refine lv_goto (tgt := 18) hx hb dX4_isWhole_14 (by decide) ?_
    obtain rfl := rtv1 h
    exact rI hQ hx hb hr hlocks hAe hP hS rfl rfl dX4_isWhole_18
/-! X4_wearBy -/
set_option maxHeartbeats 4000000 in
set_option maxRecDepth 100000 in
theorem c_X4_wearBy (l : Launch) (D : va_G) (cI : ClassId)   (p0 : Int32) (p1 : Int32) (p2 : Int32) (res : Int32) (h : M_X4_wearBy p0 p1 p2 = some res) : mI l yX4_wearBy wsX4_wearBy { frames := 0, cells := 0, slots := 0, locals := 0 } D cI [.int p0, .int p1, .int p2] [] [] res := by
  intro sz
  refine mStart (cc := cX4_wearBy) (maxL := 4) (ret := (some .int)) (own := RX4) (by decide) rfl rfl (Nat.le_of_ble_eq_true rfl) (lv := [(0, .int p0), (1, .int p1), (2, .int p2)]) rfl ?_
  intro p e s m args below meth c A ls Q H locs CF hr hlocks hK hP hD hS hA hAe hl hQ
  obtain ⟨hx, hb, hml, hown, hts⟩ := id CF
  unfold M_X4_wearBy at h
  refine lv_iconst (v := 1) hx hb dX4_wearBy_0 (by decide) ?_
  refine lv_iload_n hx hb dX4_wearBy_1 rfl (lv_at hl 2 rfl) ?_
  refine lv_iconst (v := 2) hx hb dX4_wearBy_2 (by decide) ?_
  refine lv_irem hx hb dX4_wearBy_3 (by decide) ?_
  refine lv_isub hx hb dX4_wearBy_4 ?_
  refine lv_istore_n (lv' := [(3, .int ((1 : Int32) - (p2 - p2 / (2 : Int32) * (2 : Int32)))), (0, .int p0), (1, .int p1), (2, .int p2)]) hx hb dX4_wearBy_5 rfl hl (by decide) rfl (fun ls hl => ?_)
  refine lv_iload_n hx hb dX4_wearBy_6 rfl (lv_at hl 1 rfl) ?_
  by_cases s7_1 : p0 = 1
  · replace h := fx_ite_t s7_1 h
    refine lv_tableIn (tgt := 40) hx hb dX4_wearBy_7 (by rw [s7_1]; decide) (by rw [s7_1]; decide) (off := 33) (by rw [s7_1]; rfl) (by decide) ?_
    refine lv_iconst (v := 0) hx hb dX4_wearBy_40 (by decide) ?_
    obtain rfl := rtv1 h
    exact rI hQ hx hb hr hlocks hAe hP hS rfl rfl dX4_wearBy_41
  replace h := fx_ite_f s7_1 h
  by_cases s7_2 : p0 = 2
  · replace h := fx_ite_t s7_2 h
    refine lv_tableIn (tgt := 42) hx hb dX4_wearBy_7 (by rw [s7_2]; decide) (by rw [s7_2]; decide) (off := 35) (by rw [s7_2]; rfl) (by decide) ?_
    refine lv_iconst (v := 1) hx hb dX4_wearBy_42 (by decide) ?_
    refine lv_iload_n hx hb dX4_wearBy_43 rfl (lv_at hl 0 rfl) ?_
    refine lv_iadd hx hb dX4_wearBy_44 ?_
    obtain rfl := rtv1 h
    exact rI hQ hx hb hr hlocks hAe hP hS rfl rfl dX4_wearBy_45
  replace h := fx_ite_f s7_2 h
  by_cases s7_3 : p0 = 3
  · replace h := fx_ite_t s7_3 h
    refine lv_tableIn (tgt := 46) hx hb dX4_wearBy_7 (by rw [s7_3]; decide) (by rw [s7_3]; decide) (off := 39) (by rw [s7_3]; rfl) (by decide) ?_
    refine lv_iconst (v := 2) hx hb dX4_wearBy_46 (by decide) ?_
    refine lv_iload_n hx hb dX4_wearBy_47 rfl (lv_at hl 0 rfl) ?_
    refine lv_iadd hx hb dX4_wearBy_48 ?_
    obtain rfl := rtv1 h
    exact rI hQ hx hb hr hlocks hAe hP hS rfl rfl dX4_wearBy_49
  replace h := fx_ite_f s7_3 h
  by_cases s7_4 : p0 = 4
  · replace h := fx_ite_t s7_4 h
    refine lv_tableIn (tgt := 50) hx hb dX4_wearBy_7 (by rw [s7_4]; decide) (by rw [s7_4]; decide) (off := 43) (by rw [s7_4]; rfl) (by decide) ?_
    refine lv_iload_n hx hb dX4_wearBy_50 rfl (lv_at hl 0 rfl) ?_
    refine lv_iload_n hx hb dX4_wearBy_51 rfl (lv_at hl 2 rfl) ?_
    refine lv_iconst (v := 4) hx hb dX4_wearBy_52 (by decide) ?_
    refine lv_idiv hx hb dX4_wearBy_53 (by decide) ?_
    refine lv_iadd hx hb dX4_wearBy_54 ?_
    obtain rfl := rtv1 h
    exact rI hQ hx hb hr hlocks hAe hP hS rfl rfl dX4_wearBy_55
  replace h := fx_ite_f s7_4 h
  by_cases s7_5 : p0 = 5
  · replace h := fx_ite_t s7_5 h
    refine lv_tableIn (tgt := 56) hx hb dX4_wearBy_7 (by rw [s7_5]; decide) (by rw [s7_5]; decide) (off := 49) (by rw [s7_5]; rfl) (by decide) ?_
    refine lv_iconst (v := 2) hx hb dX4_wearBy_56 (by decide) ?_
    refine lv_iload_n hx hb dX4_wearBy_57 rfl (lv_at hl 0 rfl) ?_
    refine lv_iadd hx hb dX4_wearBy_58 ?_
    refine lv_iconst (v := 2) hx hb dX4_wearBy_59 (by decide) ?_
    refine lv_idiv hx hb dX4_wearBy_60 (by decide) ?_
    obtain rfl := rtv1 h
    exact rI hQ hx hb hr hlocks hAe hP hS rfl rfl dX4_wearBy_61
  replace h := fx_ite_f s7_5 h
  refine lv_tableOut (tgt := 62) hx hb dX4_wearBy_7 (by have a_s7_1 : Int32.toInt p0 ≠ 1 := fx_toInt_ne s7_1; have a_s7_2 : Int32.toInt p0 ≠ 2 := fx_toInt_ne s7_2; have a_s7_3 : Int32.toInt p0 ≠ 3 := fx_toInt_ne s7_3; have a_s7_4 : Int32.toInt p0 ≠ 4 := fx_toInt_ne s7_4; have a_s7_5 : Int32.toInt p0 ≠ 5 := fx_toInt_ne s7_5; omega) (by decide) ?_
  refine lv_iload_n hx hb dX4_wearBy_62 rfl (lv_at hl 0 rfl) ?_
  obtain rfl := rtv1 h
  exact rI hQ hx hb hr hlocks hAe hP hS rfl rfl dX4_wearBy_63
/-! X4_hard -/
set_option maxHeartbeats 4000000 in
set_option maxRecDepth 100000 in
theorem c_X4_hard (l : Launch) (D : va_G) (cI : ClassId) (h0 : Nat) (r : (Nat → Int32)) (p1 : Int32) (res : Int32) (h : M_X4_hard r p1 = some res) : mI l yX4_hard wsX4_hard { frames := 1, cells := 0, slots := 0, locals := 21 } D cI [.ref h0, .int p1] [(h0, .inl (cI, 61, .inl r))] [(h0, .inl (cI, 61, .inl r))] res := by
  intro sz
  refine mStart (cc := cX4_hard) (maxL := 3) (ret := (some .int)) (own := RX4) (by decide) rfl rfl (Nat.le_of_ble_eq_true rfl) (lv := [(0, .ref h0), (1, .int p1)]) rfl ?_
  intro p e s m args below meth c A ls Q H locs CF hr hlocks hK hP hD hS hA hAe hl hQ
  obtain ⟨hx, hb, hml, hown, hts⟩ := id CF
  unfold M_X4_hard at h
  refine lv_aload_n hx hb dX4_hard_0 rfl (lv_at hl 0 rfl) ?_
  refine lv_iload_n hx hb dX4_hard_1 rfl (lv_at hl 1 rfl) ?_
  obtain ⟨r2, q2, h⟩ := bnd1_inv h
  refine kSI (n := 1) (As := [.int p1]) (rest := [.ref h0]) CF hl hK hP hD hS hA (c_X4_ofT l D cI   p1 r2 q2) gX4_hard_X4_ofT rfl dX4_hard_2 (by decide +kernel) ⟨⟨rfl, rfl⟩, ⟨Nat.le_of_ble_eq_true rfl, Nat.le_of_ble_eq_true rfl⟩, Nat.zero_le _, Nat.zero_le _⟩ (JN.ro [] rfl rfl) rfl rfl (Nat.le_of_ble_eq_true rfl) (fun H locs hP hD hS => ?_)
  refine lv_iconst (v := 1) hx hb dX4_hard_5 (by decide) ?_
  refine lv_iadd hx hb dX4_hard_6 ?_
  obtain ⟨g7, h⟩ := chk_inv h
  refine va_iald (n := 61) (f := r) hx hb hK hP 0 0 rfl rfl g7 dX4_hard_7 ?_
  refine lv_istore_n (lv' := [(2, .int (r (Int32.toNatClampNeg (r2 + (1 : Int32))))), (0, .ref h0), (1, .int p1)]) hx hb dX4_hard_8 rfl hl (by decide) rfl (fun ls hl => ?_)
  refine lv_aload_n hx hb dX4_hard_9 rfl (lv_at hl 1 rfl) ?_
  refine lv_iload_n hx hb dX4_hard_10 rfl (lv_at hl 2 rfl) ?_
  obtain ⟨r11, q11, h⟩ := bnd1_inv h
  refine kSI (n := 1) (As := [.int p1]) (rest := [.ref h0]) CF hl hK hP hD hS hA (c_X4_ofT l D cI   p1 r11 q11) gX4_hard_X4_ofT rfl dX4_hard_11 (by decide +kernel) ⟨⟨rfl, rfl⟩, ⟨Nat.le_of_ble_eq_true rfl, Nat.le_of_ble_eq_true rfl⟩, Nat.zero_le _, Nat.zero_le _⟩ (JN.ro [] rfl rfl) rfl rfl (Nat.le_of_ble_eq_true rfl) (fun H locs hP hD hS => ?_)
  refine lv_iconst (v := 0) hx hb dX4_hard_14 (by decide) ?_
  refine lv_iadd hx hb dX4_hard_15 ?_
  obtain ⟨g16, h⟩ := chk_inv h
  refine va_iald (n := 61) (f := r) hx hb hK hP 0 0 rfl rfl g16 dX4_hard_16 ?_
  by_cases s17_1 : (r (Int32.toNatClampNeg (r11 + (0 : Int32)))) = 1
  · replace h := fx_ite_t s17_1 h
    refine lv_tableIn (tgt := 52) hx hb dX4_hard_17 (by rw [s17_1]; decide) (by rw [s17_1]; decide) (off := 35) (by rw [s17_1]; rfl) (by decide) ?_
    refine lv_iload_n hx hb dX4_hard_52 rfl (lv_at hl 0 rfl) ?_
    refine lv_iconst (v := 2) hx hb dX4_hard_53 (by decide) ?_
    refine lv_idiv hx hb dX4_hard_54 (by decide) ?_
    obtain rfl := rtv1 h
    exact rI hQ hx hb hr hlocks hAe hP hS rfl rfl dX4_hard_55
  replace h := fx_ite_f s17_1 h
  by_cases s17_3 : (r (Int32.toNatClampNeg (r11 + (0 : Int32)))) = 3
  · replace h := fx_ite_t s17_3 h
    refine lv_tableIn (tgt := 56) hx hb dX4_hard_17 (by rw [s17_3]; decide) (by rw [s17_3]; decide) (off := 39) (by rw [s17_3]; rfl) (by decide) ?_
    refine lv_bipush (v := 9) hx hb dX4_hard_56 (by decide) ?_
    refine lv_iload_n hx hb dX4_hard_58 rfl (lv_at hl 0 rfl) ?_
    refine lv_iconst (v := 1) hx hb dX4_hard_59 (by decide) ?_
    refine lv_iadd hx hb dX4_hard_60 ?_
    obtain ⟨r61, q61, h⟩ := bnd1_inv h
    refine kSI (n := 2) (As := [.int (9 : Int32), .int ((r (Int32.toNatClampNeg (r2 + (1 : Int32)))) + (1 : Int32))]) (rest := []) CF hl hK hP hD hS hA (c_X4_least l D cI   (9 : Int32) ((r (Int32.toNatClampNeg (r2 + (1 : Int32)))) + (1 : Int32)) r61 q61) gX4_hard_X4_least rfl dX4_hard_61 (by decide +kernel) ⟨⟨rfl, rfl⟩, ⟨Nat.le_of_ble_eq_true rfl, Nat.le_of_ble_eq_true rfl⟩, Nat.zero_le _, Nat.zero_le _⟩ (JN.ro [] rfl rfl) rfl rfl (Nat.le_of_ble_eq_true rfl) (fun H locs hP hD hS => ?_)
    obtain rfl := rtv1 h
    exact rI hQ hx hb hr hlocks hAe hP hS rfl rfl dX4_hard_64
  replace h := fx_ite_f s17_3 h
  by_cases s17_4 : (r (Int32.toNatClampNeg (r11 + (0 : Int32)))) = 4
  · replace h := fx_ite_t s17_4 h
    refine lv_tableIn (tgt := 65) hx hb dX4_hard_17 (by rw [s17_4]; decide) (by rw [s17_4]; decide) (off := 48) (by rw [s17_4]; rfl) (by decide) ?_
    refine lv_bipush (v := 9) hx hb dX4_hard_65 (by decide) ?_
    refine lv_iload_n hx hb dX4_hard_67 rfl (lv_at hl 0 rfl) ?_
    refine lv_iconst (v := 2) hx hb dX4_hard_68 (by decide) ?_
    refine lv_iadd hx hb dX4_hard_69 ?_
    obtain ⟨r70, q70, h⟩ := bnd1_inv h
    refine kSI (n := 2) (As := [.int (9 : Int32), .int ((r (Int32.toNatClampNeg (r2 + (1 : Int32)))) + (2 : Int32))]) (rest := []) CF hl hK hP hD hS hA (c_X4_least l D cI   (9 : Int32) ((r (Int32.toNatClampNeg (r2 + (1 : Int32)))) + (2 : Int32)) r70 q70) gX4_hard_X4_least rfl dX4_hard_70 (by decide +kernel) ⟨⟨rfl, rfl⟩, ⟨Nat.le_of_ble_eq_true rfl, Nat.le_of_ble_eq_true rfl⟩, Nat.zero_le _, Nat.zero_le _⟩ (JN.ro [] rfl rfl) rfl rfl (Nat.le_of_ble_eq_true rfl) (fun H locs hP hD hS => ?_)
    obtain rfl := rtv1 h
    exact rI hQ hx hb hr hlocks hAe hP hS rfl rfl dX4_hard_73
  replace h := fx_ite_f s17_4 h
  by_cases s17_5 : (r (Int32.toNatClampNeg (r11 + (0 : Int32)))) = 5
  · replace h := fx_ite_t s17_5 h
    refine lv_tableIn (tgt := 74) hx hb dX4_hard_17 (by rw [s17_5]; decide) (by rw [s17_5]; decide) (off := 57) (by rw [s17_5]; rfl) (by decide) ?_
    refine lv_aload_n hx hb dX4_hard_74 rfl (lv_at hl 1 rfl) ?_
    refine lv_aload_n hx hb dX4_hard_75 rfl (lv_at hl 1 rfl) ?_
    refine lv_iload_n hx hb dX4_hard_76 rfl (lv_at hl 2 rfl) ?_
    obtain ⟨r77, q77, h⟩ := bnd1_inv h
    refine kSI (n := 1) (As := [.int p1]) (rest := [.ref h0, .ref h0]) CF hl hK hP hD hS hA (c_X4_ofT l D cI   p1 r77 q77) gX4_hard_X4_ofT rfl dX4_hard_77 (by decide +kernel) ⟨⟨rfl, rfl⟩, ⟨Nat.le_of_ble_eq_true rfl, Nat.le_of_ble_eq_true rfl⟩, Nat.zero_le _, Nat.zero_le _⟩ (JN.ro [] rfl rfl) rfl rfl (Nat.le_of_ble_eq_true rfl) (fun H locs hP hD hS => ?_)
    refine lv_iconst (v := 2) hx hb dX4_hard_80 (by decide) ?_
    refine lv_iadd hx hb dX4_hard_81 ?_
    obtain ⟨g82, h⟩ := chk_inv h
    refine va_iald (n := 61) (f := r) hx hb hK hP 0 0 rfl rfl g82 dX4_hard_82 ?_
    obtain ⟨r83, q83, h⟩ := bnd1_inv h
    refine kSI (n := 1) (As := [.int (r (Int32.toNatClampNeg (r77 + (2 : Int32))))]) (rest := [.ref h0]) CF hl hK hP hD hS hA (c_X4_ofP l D cI   (r (Int32.toNatClampNeg (r77 + (2 : Int32)))) r83 q83) gX4_hard_X4_ofP rfl dX4_hard_83 (by decide +kernel) ⟨⟨rfl, rfl⟩, ⟨Nat.le_of_ble_eq_true rfl, Nat.le_of_ble_eq_true rfl⟩, Nat.zero_le _, Nat.zero_le _⟩ (JN.ro [] rfl rfl) rfl rfl (Nat.le_of_ble_eq_true rfl) (fun H locs hP hD hS => ?_)
    refine lv_iconst (v := 0) hx hb dX4_hard_86 (by decide) ?_
    refine lv_iadd hx hb dX4_hard_87 ?_
    obtain ⟨g88, h⟩ := chk_inv h
    refine va_iald (n := 61) (f := r) hx hb hK hP 0 0 rfl rfl g88 dX4_hard_88 ?_
    refine lv_iconst (v := 5) hx hb dX4_hard_89 (by decide) ?_
    refine lv_icmp_lt (tgt := 97) hx hb dX4_hard_90 (by decide) (fun c90 => ?_) (fun c90 => ?_)
    · replace h := fx_ite_t c90 h
      refine lv_bipush (v := 9) hx hb dX4_hard_97 (by decide) ?_
      refine lv_iload_n hx hb dX4_hard_99 rfl (lv_at hl 0 rfl) ?_
      refine lv_iconst (v := 1) hx hb dX4_hard_100 (by decide) ?_
      refine lv_iadd hx hb dX4_hard_101 ?_
      obtain ⟨r102, q102, h⟩ := bnd1_inv h
      refine kSI (n := 2) (As := [.int (9 : Int32), .int ((r (Int32.toNatClampNeg (r2 + (1 : Int32)))) + (1 : Int32))]) (rest := []) CF hl hK hP hD hS hA (c_X4_least l D cI   (9 : Int32) ((r (Int32.toNatClampNeg (r2 + (1 : Int32)))) + (1 : Int32)) r102 q102) gX4_hard_X4_least rfl dX4_hard_102 (by decide +kernel) ⟨⟨rfl, rfl⟩, ⟨Nat.le_of_ble_eq_true rfl, Nat.le_of_ble_eq_true rfl⟩, Nat.zero_le _, Nat.zero_le _⟩ (JN.ro [] rfl rfl) rfl rfl (Nat.le_of_ble_eq_true rfl) (fun H locs hP hD hS => ?_)
      obtain rfl := rtv1 h
      exact rI hQ hx hb hr hlocks hAe hP hS rfl rfl dX4_hard_105
    · replace h := fx_ite_f c90 h
      refine lv_iconst (v := 0) hx hb dX4_hard_93 (by decide) ?_
      refine lv_goto (tgt := 105) hx hb dX4_hard_94 (by decide) ?_
      obtain rfl := rtv1 h
      exact rI hQ hx hb hr hlocks hAe hP hS rfl rfl dX4_hard_105
  replace h := fx_ite_f s17_5 h
  have hdf17 : ∀ (kk : W p l e { frames := 1, cells := 0, slots := 0, locals := 21 } s m args below meth c H locs 0 0 Q (F0 m 106 ls [])), W p l e { frames := 1, cells := 0, slots := 0, locals := 21 } s m args below meth c H locs 0 0 Q (F0 m 17 ls [.int (r (Int32.toNatClampNeg (r11 + (0 : Int32))))]) := by
    intro kk
    by_cases hr17 : Int32.toInt (r (Int32.toNatClampNeg (r11 + (0 : Int32)))) < 1 ∨ 5 < Int32.toInt (r (Int32.toNatClampNeg (r11 + (0 : Int32))))
    · exact lv_tableOut (tgt := 106) hx hb dX4_hard_17 hr17 (by decide) kk
    · refine lv_tableIn (tgt := 106) hx hb dX4_hard_17 (by omega) (by omega) (off := 89) ?_ (by decide) kk
      have a_s17_1 : Int32.toInt (r (Int32.toNatClampNeg (r11 + (0 : Int32)))) ≠ 1 := fx_toInt_ne s17_1; have a_s17_3 : Int32.toInt (r (Int32.toNatClampNeg (r11 + (0 : Int32)))) ≠ 3 := fx_toInt_ne s17_3; have a_s17_4 : Int32.toInt (r (Int32.toNatClampNeg (r11 + (0 : Int32)))) ≠ 4 := fx_toInt_ne s17_4; have a_s17_5 : Int32.toInt (r (Int32.toNatClampNeg (r11 + (0 : Int32)))) ≠ 5 := fx_toInt_ne s17_5
      have e9 : (Int32.toInt (r (Int32.toNatClampNeg (r11 + (0 : Int32)))) - 1).toNat = 1 := by omega
      rcases e9 with e9 <;> rw [e9] <;> rfl
  refine hdf17 ?_
  refine lv_iload_n hx hb dX4_hard_106 rfl (lv_at hl 0 rfl) ?_
  obtain rfl := rtv1 h
  exact rI hQ hx hb hr hlocks hAe hP hS rfl rfl dX4_hard_107
/-! X4_isAble -/
set_option maxHeartbeats 4000000 in
set_option maxRecDepth 100000 in
theorem c_X4_isAble (l : Launch) (D : va_G) (cI : ClassId) (h0 : Nat) (r : (Nat → Int32)) (p1 : Int32) (p2 : Int32) (res : Int32) (h : M_X4_isAble r p1 p2 = some res) : mI l yX4_isAble wsX4_isAble { frames := 2, cells := 0, slots := 0, locals := 43 } D cI [.ref h0, .int p1, .int p2] [(h0, .inl (cI, 61, .inl r))] [(h0, .inl (cI, 61, .inl r))] res := by
  intro sz
  refine mStart (cc := cX4_isAble) (maxL := 3) (ret := (some .boolean)) (own := RX4) (by decide) rfl rfl (Nat.le_of_ble_eq_true rfl) (lv := [(0, .ref h0), (1, .int p1), (2, .int p2)]) rfl ?_
  intro p e s m args below meth c A ls Q H locs CF hr hlocks hK hP hD hS hA hAe hl hQ
  obtain ⟨hx, hb, hml, hown, hts⟩ := id CF
  unfold M_X4_isAble at h
  refine lv_aload_n hx hb dX4_isAble_0 rfl (lv_at hl 0 rfl) ?_
  refine lv_iload_n hx hb dX4_isAble_1 rfl (lv_at hl 1 rfl) ?_
  obtain ⟨r2, q2, h⟩ := bnd1_inv h
  refine kSI (n := 1) (As := [.int p1]) (rest := [.ref h0]) CF hl hK hP hD hS hA (c_X4_ofP l D cI   p1 r2 q2) gX4_isAble_X4_ofP rfl dX4_isAble_2 (by decide +kernel) ⟨⟨rfl, rfl⟩, ⟨Nat.le_of_ble_eq_true rfl, Nat.le_of_ble_eq_true rfl⟩, Nat.zero_le _, Nat.zero_le _⟩ (JN.ro [] rfl rfl) rfl rfl (Nat.le_of_ble_eq_true rfl) (fun H locs hP hD hS => ?_)
  refine lv_iconst (v := 0) hx hb dX4_isAble_5 (by decide) ?_
  refine lv_iadd hx hb dX4_isAble_6 ?_
  obtain ⟨g7, h⟩ := chk_inv h
  refine va_iald (n := 61) (f := r) hx hb hK hP 0 0 rfl rfl g7 dX4_isAble_7 ?_
  refine lv_aload_n hx hb dX4_isAble_8 rfl (lv_at hl 0 rfl) ?_
  refine lv_iload_n hx hb dX4_isAble_9 rfl (lv_at hl 2 rfl) ?_
  obtain ⟨r10, q10, h⟩ := bnd1_inv h
  refine kSI (n := 2) (As := [.ref h0, .int p2]) (rest := [.int (r (Int32.toNatClampNeg (r2 + (0 : Int32))))]) CF hl hK hP hD hS hA (c_X4_hard l D cI h0 r p2 r10 q10) gX4_isAble_X4_hard rfl dX4_isAble_10 (by decide +kernel) ⟨⟨rfl, rfl⟩, ⟨Nat.le_of_ble_eq_true rfl, Nat.le_of_ble_eq_true rfl⟩, Nat.zero_le _, Nat.zero_le _⟩ (JN.whole rfl) rfl rfl (Nat.le_of_ble_eq_true rfl) (fun H locs hP hD hS => ?_)
  replace hP : va_P D vwCl [(h0, .inl (cI, 61, .inl r))] H := hP
  replace hD : va_D A [(h0, .inl (cI, 61, .inl r))] := hD
  refine lv_icmp_lt (tgt := 20) hx hb dX4_isAble_13 (by decide) (fun c13 => ?_) (fun c13 => ?_)
  · replace h := fx_ite_t c13 h
    refine lv_iconst (v := 0) hx hb dX4_isAble_20 (by decide) ?_
    obtain rfl := rtv1 h
    exact rI hQ hx hb hr hlocks hAe hP hS rfl rfl dX4_isAble_21
  · replace h := fx_ite_f c13 h
    refine lv_iconst (v := 1) hx hb dX4_isAble_16 (by decide) ?_
    refine lv_goto (tgt := 21) hx hb dX4_isAble_17 (by decide) ?_
    obtain rfl := rtv1 h
    exact rI hQ hx hb hr hlocks hAe hP hS rfl rfl dX4_isAble_21
/-! X4_mayMend -/
set_option maxHeartbeats 4000000 in
set_option maxRecDepth 100000 in
theorem c_X4_mayMend (l : Launch) (D : va_G) (cI : ClassId) (h0 : Nat) (r : (Nat → Int32)) (p1 : Int32) (p2 : Int32) (res : Int32) (h : M_X4_mayMend r p1 p2 = some res) : mI l yX4_mayMend wsX4_mayMend { frames := 3, cells := 0, slots := 0, locals := 65 } D cI [.ref h0, .int p1, .int p2] [(h0, .inl (cI, 61, .inl r))] [(h0, .inl (cI, 61, .inl r))] res := by
  intro sz
  refine mStart (cc := cX4_mayMend) (maxL := 3) (ret := (some .boolean)) (own := RX4) (by decide) rfl rfl (Nat.le_of_ble_eq_true rfl) (lv := [(0, .ref h0), (1, .int p1), (2, .int p2)]) rfl ?_
  intro p e s m args below meth c A ls Q H locs CF hr hlocks hK hP hD hS hA hAe hl hQ
  obtain ⟨hx, hb, hml, hown, hts⟩ := id CF
  unfold M_X4_mayMend at h
  refine lv_aload_n hx hb dX4_mayMend_0 rfl (lv_at hl 0 rfl) ?_
  refine lv_iload_n hx hb dX4_mayMend_1 rfl (lv_at hl 2 rfl) ?_
  obtain ⟨r2, q2, h⟩ := bnd1_inv h
  refine kSI (n := 1) (As := [.int p2]) (rest := [.ref h0]) CF hl hK hP hD hS hA (c_X4_ofT l D cI   p2 r2 q2) gX4_mayMend_X4_ofT rfl dX4_mayMend_2 (by decide +kernel) ⟨⟨rfl, rfl⟩, ⟨Nat.le_of_ble_eq_true rfl, Nat.le_of_ble_eq_true rfl⟩, Nat.zero_le _, Nat.zero_le _⟩ (JN.ro [] rfl rfl) rfl rfl (Nat.le_of_ble_eq_true rfl) (fun H locs hP hD hS => ?_)
  refine lv_iconst (v := 4) hx hb dX4_mayMend_5 (by decide) ?_
  refine lv_iadd hx hb dX4_mayMend_6 ?_
  obtain ⟨g7, h⟩ := chk_inv h
  refine va_iald (n := 61) (f := r) hx hb hK hP 0 0 rfl rfl g7 dX4_mayMend_7 ?_
  refine lv_if_lt (tgt := 36) hx hb dX4_mayMend_8 (by decide) (fun c8 => ?_) (fun c8 => ?_)
  · replace h := fx_ite_t c8 h
    refine lv_iconst (v := 0) hx hb dX4_mayMend_36 (by decide) ?_
    obtain rfl := rtv1 h
    exact rI hQ hx hb hr hlocks hAe hP hS rfl rfl dX4_mayMend_37
  · replace h := fx_ite_f c8 h
    refine lv_aload_n hx hb dX4_mayMend_11 rfl (lv_at hl 0 rfl) ?_
    refine lv_iload_n hx hb dX4_mayMend_12 rfl (lv_at hl 2 rfl) ?_
    obtain ⟨r13, q13, h⟩ := bnd1_inv h
    refine kSI (n := 1) (As := [.int p2]) (rest := [.ref h0]) CF hl hK hP hD hS hA (c_X4_ofT l D cI   p2 r13 q13) gX4_mayMend_X4_ofT rfl dX4_mayMend_13 (by decide +kernel) ⟨⟨rfl, rfl⟩, ⟨Nat.le_of_ble_eq_true rfl, Nat.le_of_ble_eq_true rfl⟩, Nat.zero_le _, Nat.zero_le _⟩ (JN.ro [] rfl rfl) rfl rfl (Nat.le_of_ble_eq_true rfl) (fun H locs hP hD hS => ?_)
    refine lv_iconst (v := 4) hx hb dX4_mayMend_16 (by decide) ?_
    refine lv_iadd hx hb dX4_mayMend_17 ?_
    obtain ⟨g18, h⟩ := chk_inv h
    refine va_iald (n := 61) (f := r) hx hb hK hP 0 0 rfl rfl g18 dX4_mayMend_18 ?_
    refine lv_iload_n hx hb dX4_mayMend_19 rfl (lv_at hl 1 rfl) ?_
    refine lv_icmp_eq (tgt := 36) hx hb dX4_mayMend_20 (by decide) (fun c20 => ?_) (fun c20 => ?_)
    · replace h := fx_ite_t c20 h
      refine lv_iconst (v := 0) hx hb dX4_mayMend_36 (by decide) ?_
      obtain rfl := rtv1 h
      exact rI hQ hx hb hr hlocks hAe hP hS rfl rfl dX4_mayMend_37
    · replace h := fx_ite_f c20 h
      refine lv_aload_n hx hb dX4_mayMend_23 rfl (lv_at hl 0 rfl) ?_
      refine lv_iload_n hx hb dX4_mayMend_24 rfl (lv_at hl 1 rfl) ?_
      refine lv_iload_n hx hb dX4_mayMend_25 rfl (lv_at hl 2 rfl) ?_
      obtain ⟨r26, q26, h⟩ := bnd1_inv h
      refine kSI (n := 3) (As := [.ref h0, .int p1, .int p2]) (rest := []) CF hl hK hP hD hS hA (c_X4_isAble l D cI h0 r p1 p2 r26 q26) gX4_mayMend_X4_isAble rfl dX4_mayMend_26 (by decide +kernel) ⟨⟨rfl, rfl⟩, ⟨Nat.le_of_ble_eq_true rfl, Nat.le_of_ble_eq_true rfl⟩, Nat.zero_le _, Nat.zero_le _⟩ (JN.whole rfl) rfl rfl (Nat.le_of_ble_eq_true rfl) (fun H locs hP hD hS => ?_)
      replace hP : va_P D vwCl [(h0, .inl (cI, 61, .inl r))] H := hP
      replace hD : va_D A [(h0, .inl (cI, 61, .inl r))] := hD
      refine lv_if_eq (tgt := 36) hx hb dX4_mayMend_29 (by decide) (fun c29 => ?_) (fun c29 => ?_)
      · replace h := fx_ite_t c29 h
        refine lv_iconst (v := 0) hx hb dX4_mayMend_36 (by decide) ?_
        obtain rfl := rtv1 h
        exact rI hQ hx hb hr hlocks hAe hP hS rfl rfl dX4_mayMend_37
      · replace h := fx_ite_f c29 h
        refine lv_iconst (v := 1) hx hb dX4_mayMend_32 (by decide) ?_
        refine lv_goto (tgt := 37) hx hb dX4_mayMend_33 (by decide) ?_
        obtain rfl := rtv1 h
        exact rI hQ hx hb hr hlocks hAe hP hS rfl rfl dX4_mayMend_37
/-! X4_mendsIn -/
set_option maxHeartbeats 4000000 in
set_option maxRecDepth 100000 in
theorem c_X4_mendsIn (l : Launch) (D : va_G) (cI : ClassId) (h0 : Nat) (r : (Nat → Int32)) (p1 : Int32) (p2 : Int32) (u_r : (Nat → Int32)) (h : M_X4_mendsIn r p1 p2 = some u_r) : mV l yX4_mendsIn wsX4_mendsIn { frames := 1, cells := 0, slots := 0, locals := 21 } D cI [.ref h0, .int p1, .int p2] [(h0, .inl (cI, 61, .inl r))] [(h0, .inl (cI, 61, .inl u_r))] := by
  intro sz
  refine mStart (cc := cX4_mendsIn) (maxL := 3) (ret := none) (own := RX4) (by decide) rfl rfl (Nat.le_of_ble_eq_true rfl) (lv := [(0, .ref h0), (1, .int p1), (2, .int p2)]) rfl ?_
  intro p e s m args below meth c A ls Q H locs CF hr hlocks hK hP hD hS hA hAe hl hQ
  obtain ⟨hx, hb, hml, hown, hts⟩ := id CF
  unfold M_X4_mendsIn at h
  refine lv_aload_n hx hb dX4_mendsIn_0 rfl (lv_at hl 0 rfl) ?_
  refine lv_iload_n hx hb dX4_mendsIn_1 rfl (lv_at hl 2 rfl) ?_
  obtain ⟨r2, q2, h⟩ := bnd1_inv h
  refine kSI (n := 1) (As := [.int p2]) (rest := [.ref h0]) CF hl hK hP hD hS hA (c_X4_ofT l D cI   p2 r2 q2) gX4_mendsIn_X4_ofT rfl dX4_mendsIn_2 (by decide +kernel) ⟨⟨rfl, rfl⟩, ⟨Nat.le_of_ble_eq_true rfl, Nat.le_of_ble_eq_true rfl⟩, Nat.zero_le _, Nat.zero_le _⟩ (JN.ro [] rfl rfl) rfl rfl (Nat.le_of_ble_eq_true rfl) (fun H locs hP hD hS => ?_)
  refine lv_iconst (v := 4) hx hb dX4_mendsIn_5 (by decide) ?_
  refine lv_iadd hx hb dX4_mendsIn_6 ?_
  refine lv_bipush (v := (-9)) hx hb dX4_mendsIn_7 (by decide) ?_
  obtain ⟨g9, h⟩ := chk_inv h
  refine va_iast (n := 61) (f := r) hx hb hK hP hD hS 0 0 rfl rfl g9 dX4_mendsIn_9 (fun H locs hP hD hS => ?_)
  replace hP : va_P D vwCl [(h0, .inl (cI, 61, .inl (upd r (Int32.toNatClampNeg (r2 + (4 : Int32))) (-9 : Int32))))] H := hP
  replace hD : va_D A [(h0, .inl (cI, 61, .inl (upd r (Int32.toNatClampNeg (r2 + (4 : Int32))) (-9 : Int32))))] := hD
  refine lv_aload_n hx hb dX4_mendsIn_10 rfl (lv_at hl 0 rfl) ?_
  refine lv_iload_n hx hb dX4_mendsIn_11 rfl (lv_at hl 2 rfl) ?_
  obtain ⟨r12, q12, h⟩ := bnd1_inv h
  refine kSI (n := 1) (As := [.int p2]) (rest := [.ref h0]) CF hl hK hP hD hS hA (c_X4_ofT l D cI   p2 r12 q12) gX4_mendsIn_X4_ofT rfl dX4_mendsIn_12 (by decide +kernel) ⟨⟨rfl, rfl⟩, ⟨Nat.le_of_ble_eq_true rfl, Nat.le_of_ble_eq_true rfl⟩, Nat.zero_le _, Nat.zero_le _⟩ (JN.ro [] rfl rfl) rfl rfl (Nat.le_of_ble_eq_true rfl) (fun H locs hP hD hS => ?_)
  refine lv_iconst (v := 3) hx hb dX4_mendsIn_15 (by decide) ?_
  refine lv_iadd hx hb dX4_mendsIn_16 ?_
  refine lv_iconst (v := 0) hx hb dX4_mendsIn_17 (by decide) ?_
  obtain ⟨g18, h⟩ := chk_inv h
  refine va_iast (n := 61) (f := (upd r (Int32.toNatClampNeg (r2 + (4 : Int32))) (-9 : Int32))) hx hb hK hP hD hS 0 0 rfl rfl g18 dX4_mendsIn_18 (fun H locs hP hD hS => ?_)
  replace hP : va_P D vwCl [(h0, .inl (cI, 61, .inl (upd (upd r (Int32.toNatClampNeg (r2 + (4 : Int32))) (-9 : Int32)) (Int32.toNatClampNeg (r12 + (3 : Int32))) (0 : Int32))))] H := hP
  replace hD : va_D A [(h0, .inl (cI, 61, .inl (upd (upd r (Int32.toNatClampNeg (r2 + (4 : Int32))) (-9 : Int32)) (Int32.toNatClampNeg (r12 + (3 : Int32))) (0 : Int32))))] := hD
  refine lv_aload_n hx hb dX4_mendsIn_19 rfl (lv_at hl 0 rfl) ?_
  refine lv_iload_n hx hb dX4_mendsIn_20 rfl (lv_at hl 1 rfl) ?_
  obtain ⟨r21, q21, h⟩ := bnd1_inv h
  refine kSI (n := 1) (As := [.int p1]) (rest := [.ref h0]) CF hl hK hP hD hS hA (c_X4_ofP l D cI   p1 r21 q21) gX4_mendsIn_X4_ofP rfl dX4_mendsIn_21 (by decide +kernel) ⟨⟨rfl, rfl⟩, ⟨Nat.le_of_ble_eq_true rfl, Nat.le_of_ble_eq_true rfl⟩, Nat.zero_le _, Nat.zero_le _⟩ (JN.ro [] rfl rfl) rfl rfl (Nat.le_of_ble_eq_true rfl) (fun H locs hP hD hS => ?_)
  refine lv_iconst (v := 1) hx hb dX4_mendsIn_24 (by decide) ?_
  refine lv_iadd hx hb dX4_mendsIn_25 ?_
  refine lv_sipush (v := 999) hx hb dX4_mendsIn_26 (by decide) ?_
  refine lv_aload_n hx hb dX4_mendsIn_29 rfl (lv_at hl 0 rfl) ?_
  refine lv_iload_n hx hb dX4_mendsIn_30 rfl (lv_at hl 1 rfl) ?_
  obtain ⟨r31, q31, h⟩ := bnd1_inv h
  refine kSI (n := 1) (As := [.int p1]) (rest := [.ref h0, .int (999 : Int32), .int (r21 + (1 : Int32)), .ref h0]) CF hl hK hP hD hS hA (c_X4_ofP l D cI   p1 r31 q31) gX4_mendsIn_X4_ofP rfl dX4_mendsIn_31 (by decide +kernel) ⟨⟨rfl, rfl⟩, ⟨Nat.le_of_ble_eq_true rfl, Nat.le_of_ble_eq_true rfl⟩, Nat.zero_le _, Nat.zero_le _⟩ (JN.ro [] rfl rfl) rfl rfl (Nat.le_of_ble_eq_true rfl) (fun H locs hP hD hS => ?_)
  refine lv_iconst (v := 1) hx hb dX4_mendsIn_34 (by decide) ?_
  refine lv_iadd hx hb dX4_mendsIn_35 ?_
  obtain ⟨g36, h⟩ := chk_inv h
  refine va_iald (n := 61) (f := (upd (upd r (Int32.toNatClampNeg (r2 + (4 : Int32))) (-9 : Int32)) (Int32.toNatClampNeg (r12 + (3 : Int32))) (0 : Int32))) hx hb hK hP 0 0 rfl rfl g36 dX4_mendsIn_36 ?_
  refine lv_iconst (v := 1) hx hb dX4_mendsIn_37 (by decide) ?_
  refine lv_iadd hx hb dX4_mendsIn_38 ?_
  obtain ⟨r39, q39, h⟩ := bnd1_inv h
  refine kSI (n := 2) (As := [.int (999 : Int32), .int (((upd (upd r (Int32.toNatClampNeg (r2 + (4 : Int32))) (-9 : Int32)) (Int32.toNatClampNeg (r12 + (3 : Int32))) (0 : Int32)) (Int32.toNatClampNeg (r31 + (1 : Int32)))) + (1 : Int32))]) (rest := [.int (r21 + (1 : Int32)), .ref h0]) CF hl hK hP hD hS hA (c_X4_least l D cI   (999 : Int32) (((upd (upd r (Int32.toNatClampNeg (r2 + (4 : Int32))) (-9 : Int32)) (Int32.toNatClampNeg (r12 + (3 : Int32))) (0 : Int32)) (Int32.toNatClampNeg (r31 + (1 : Int32)))) + (1 : Int32)) r39 q39) gX4_mendsIn_X4_least rfl dX4_mendsIn_39 (by decide +kernel) ⟨⟨rfl, rfl⟩, ⟨Nat.le_of_ble_eq_true rfl, Nat.le_of_ble_eq_true rfl⟩, Nat.zero_le _, Nat.zero_le _⟩ (JN.ro [] rfl rfl) rfl rfl (Nat.le_of_ble_eq_true rfl) (fun H locs hP hD hS => ?_)
  obtain ⟨g42, h⟩ := chk_inv h
  refine va_iast (n := 61) (f := (upd (upd r (Int32.toNatClampNeg (r2 + (4 : Int32))) (-9 : Int32)) (Int32.toNatClampNeg (r12 + (3 : Int32))) (0 : Int32))) hx hb hK hP hD hS 0 0 rfl rfl g42 dX4_mendsIn_42 (fun H locs hP hD hS => ?_)
  replace hP : va_P D vwCl [(h0, .inl (cI, 61, .inl (upd (upd (upd r (Int32.toNatClampNeg (r2 + (4 : Int32))) (-9 : Int32)) (Int32.toNatClampNeg (r12 + (3 : Int32))) (0 : Int32)) (Int32.toNatClampNeg (r21 + (1 : Int32))) r39)))] H := hP
  replace hD : va_D A [(h0, .inl (cI, 61, .inl (upd (upd (upd r (Int32.toNatClampNeg (r2 + (4 : Int32))) (-9 : Int32)) (Int32.toNatClampNeg (r12 + (3 : Int32))) (0 : Int32)) (Int32.toNatClampNeg (r21 + (1 : Int32))) r39)))] := hD
  obtain rfl := rtv1 h
  exact rV hQ hx hb hr hlocks hAe hP hS dX4_mendsIn_43
