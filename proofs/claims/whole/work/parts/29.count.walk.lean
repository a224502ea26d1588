/-! a method that reads a nest mate's private field: the tables' word of it stands in what it starts from -/
def mPreN (nw : Cond) (D : va_G) (cI : ClassId) (av : List Value) (wc : va_W) (sz : Nat) : Array Value → State → Prop := va_Pc av (fun U => (U.heap.size = sz ∧ va_P D vwCl wc U.heap ∧ va_K D vwCl [(cI, .int)] U ∧ va_D (fun _ => True) wc) ∧ va_Nw nw U)
theorem mPreN_blind {nw : Cond} (hw : nw.onTables = true) {D : va_G} {cI : ClassId} {av : List Value} {wc : va_W} {sz : Nat} : FrameBlind (mPreN nw D cI av wc sz) := by
  intro a U g mk q
  obtain ⟨q0, ⟨q1, qP, qK, qD⟩, qN⟩ := q
  exact ⟨q0, ⟨q1, qP, va_K.moved (u := U) (U := U.calling g mk a) (Vm.Alike.refl U.vm) qK, qD⟩, va_Nw.same (u := U) hw rfl qN⟩
def mIN (l : Launch) (y : MethodName) (ws : List Cond) (rm : Room) (nw : Cond) (D : va_G) (cI : ClassId) (av : List Value) (wc w1 : va_W) (r : Int32) : Prop := ∀ sz : Nat, Met l y ws rm (mPreN nw D cI av wc sz) (mQi D wc w1 sz r) 0 0 (va_A wc sz)
theorem mStartN {nw : Cond} {l : Launch} {y : MethodName} {ws ws' : List Cond} {rm : Room} {D : va_G} {cI : ClassId} {av : List Value} {wc : va_W} {sz : Nat} {Qc : Array Value → State → Outcome → State → Prop} {cc : ByteArray} {maxL : Nat} {ret : Option FieldType} {own : String}
    (hy : plainName y.cls = true) (hw : ws = Cond.code y cc maxL ret :: ws') (ho : y.cls = own) (hn : (lg_sl av).length ≤ maxL) {lv : List (Nat × Value)} (hlv : lv_args 0 av = lv)
    (body : ∀ (p : Program) (e : Env) (s : State) (m : MethodId) (args : Array Value) (below : List Frame) (meth : Method) (c : Code) (A : Nat → Prop) (ls : Array Slot) (Q : State → Prop) (H : Heap) (locs : List Loc), CallFix p m c cc maxL s args ws own → meth.sig.returnType = ret → meth.locks = false → va_K D vwCl [(cI, .int)] s → va_P D vwCl wc H → va_D A wc → va_S A s.heap H locs → (∀ q, s.heap.size ≤ q → A q) → A = va_A wc sz → lv_has ls maxL lv → Q = MQ below Qc args s 0 0 (va_A wc sz) → va_Nw nw s →
      W p l e rm s m args below meth c H locs 0 0 Q (F0 m 0 ls [])) : Met l y ws rm (mPreN nw D cI av wc sz) Qc 0 0 (va_A wc sz) := by
  refine Met.ofW (cc := cc) (maxL := maxL) (ret := ret) hy hw ?_
  intro p e s m args below meth c s₁ B hml hv
  obtain ⟨rfl, ⟨hsz, hP, hK, hD0⟩, hN⟩ := hv
  subst hsz
  subst ho
  subst hlv
  have hl := lv_entry av (n := maxL) hn
  rw [lg_entry_eq]
  exact body p e s m _ below meth c _ _ _ _ _ ⟨B.exec, B.bytes, hml, findClass_of_methodNamed B.named, atoms_spec (ws := ws) B.pre⟩ B.returns B.notSynchronized hK hP hD0.self va_S.rf (fun q h => Or.inr h) rfl hl rfl hN
set_option maxHeartbeats 4000000 in
set_option maxRecDepth 100000 in
theorem c_X3_count (l : Launch) (D : va_G) (cI : ClassId) (a : Nat → Nat) (no : SV) (mi : SV) (ke : SV) (hk : Int32) (sg : (Nat → Int32)) (lz : Int32) (rn : (Nat → Int32)) (rs : Int32) (rf : (Nat → Int32)) (be : (Nat → Int32)) (fh : (Nat → Int32)) (oh : (Nat → Int32)) (p1 : Int32) (res : Int32) (h : M_X3_count no lz rs rf p1 = some res) : mIN l yX3_count wsX3_count { frames := 2, cells := 0, slots := 0, locals := 43 } (.fieldLinkNest RX3 275 "MendAnothersBreaking$Letters" "size" "I" RX3) D cI [.ref (a 0), .int p1] (cX a cI no mi ke hk sg lz rn rs rf be fh oh) (cX a cI no mi ke hk sg lz rn rs rf be fh oh) res := by
  intro sz
  refine mStartN (cc := cX3_count) (maxL := 2) (ret := (some .int)) (own := RX3) (by decide) rfl rfl (Nat.le_of_ble_eq_true rfl) (lv := [(0, .ref (a 0)), (1, .int p1)]) rfl ?_
  intro p e s m args below meth c A ls Q H locs CF hr hlocks hK hP hD hS hA hAe hl hQ hnw
  obtain ⟨hx, hb, hml, hown, hts⟩ := id CF
  have f10 := hts (.fieldLink RX3 10 "MendAnothersBreaking" "now" "LMendAnothersBreaking$State;") (List.mem_of_getElem? (i := 1) rfl)
  have f29 := hts (.fieldLink RX3 29 "MendAnothersBreaking" "told" "LMendAnothersBreaking$Letters;") (List.mem_of_getElem? (i := 6) rfl)
  have f37 := hts (.fieldLink RX3 37 "MendAnothersBreaking" "rowSize" "I") (List.mem_of_getElem? (i := 5) rfl)
  have f41 := hts (.fieldLink RX3 41 "MendAnothersBreaking" "refusals" "[I") (List.mem_of_getElem? (i := 7) rfl)
  have f120 := hts (.fieldLink RX3 120 "MendAnothersBreaking$State" "day" "I") (List.mem_of_getElem? (i := 4) rfl)
  have f171 := hts (.fieldLink RX3 171 "MendAnothersBreaking$State" "things" "I") (List.mem_of_getElem? (i := 3) rfl)
  have f190 := hts (.fieldLink RX3 190 "MendAnothersBreaking$State" "people" "I") (List.mem_of_getElem? (i := 2) rfl)
  have f275 := hnw
  have i0 : ∀ w ∈ wsX00, w ∈ wsX3_count := fun w h => List.mem_cons_of_mem _ (List.mem_append_right _ h)
  have i2 : ∀ w ∈ wsX20, w ∈ wsX3_count := fun w h => List.mem_cons_of_mem _ (List.mem_append_left _ (List.mem_append_right _ h))
  have i3 : ∀ w ∈ wsX30, w ∈ wsX3_count := fun w h => List.mem_cons_of_mem _ (List.mem_append_left _ (List.mem_append_left _ (List.mem_append_right _ h)))
  unfold M_X3_count at h
  refine lv_iload_n hx hb dX3_count_0 rfl (lv_at hl 1 rfl) ?_
  by_cases s1_0 : p1 = 0
  · replace h := fx_ite_t s1_0 h
    refine lv_tableIn (tgt := 48) hx hb dX3_count_1 (by rw [s1_0]; decide) (by rw [s1_0]; decide) (off := 47) (by rw [s1_0]; rfl) (by decide) ?_
    refine lv_aload_n hx hb dX3_count_48 rfl (lv_at hl 0 rfl) ?_
    refine va_get (D := D) (ci := 3) (v := .ref (a 1)) (C := RX3) (T := TX3) (N := 11) hx hb hts i3 hown hK hP 0 rfl rfl 0 (by decide) f10 (fun _ h9 => h9) rfl dX3_count_49 ?_
    refine va_get (D := D) (ci := 2) (v := .int (sPe no)) (C := RX2) (T := TX2) (N := 10) hx hb hts i2 hown hK hP 1 rfl rfl 7 (by decide) f190 (fun _ h9 => h9) rfl dX3_count_52 ?_
    obtain rfl := rtv1 h
    exact rI hQ hx hb hr hlocks hAe hP hS rfl rfl dX3_count_55
  replace h := fx_ite_f s1_0 h
  by_cases s1_1 : p1 = 1
  · replace h := fx_ite_t s1_1 h
    refine lv_tableIn (tgt := 56) hx hb dX3_count_1 (by rw [s1_1]; decide) (by rw [s1_1]; decide) (off := 55) (by rw [s1_1]; rfl) (by decide) ?_
    refine lv_aload_n hx hb dX3_count_56 rfl (lv_at hl 0 rfl) ?_
    refine va_get (D := D) (ci := 3) (v := .ref (a 1)) (C := RX3) (T := TX3) (N := 11) hx hb hts i3 hown hK hP 0 rfl rfl 0 (by decide) f10 (fun _ h9 => h9) rfl dX3_count_57 ?_
    refine va_get (D := D) (ci := 2) (v := .int (sTh no)) (C := RX2) (T := TX2) (N := 10) hx hb hts i2 hown hK hP 1 rfl rfl 8 (by decide) f171 (fun _ h9 => h9) rfl dX3_count_60 ?_
    obtain rfl := rtv1 h
    exact rI hQ hx hb hr hlocks hAe hP hS rfl rfl dX3_count_63
  replace h := fx_ite_f s1_1 h
  by_cases s1_2 : p1 = 2
  · replace h := fx_ite_t s1_2 h
    refine lv_tableIn (tgt := 64) hx hb dX3_count_1 (by rw [s1_2]; decide) (by rw [s1_2]; decide) (off := 63) (by rw [s1_2]; rfl) (by decide) ?_
    refine lv_aload_n hx hb dX3_count_64 rfl (lv_at hl 0 rfl) ?_
    refine va_get (D := D) (ci := 3) (v := .ref (a 1)) (C := RX3) (T := TX3) (N := 11) hx hb hts i3 hown hK hP 0 rfl rfl 0 (by decide) f10 (fun _ h9 => h9) rfl dX3_count_65 ?_
    refine va_get (D := D) (ci := 2) (v := .int (sDa no)) (C := RX2) (T := TX2) (N := 10) hx hb hts i2 hown hK hP 1 rfl rfl 9 (by decide) f120 (fun _ h9 => h9) rfl dX3_count_68 ?_
    obtain rfl := rtv1 h
    exact rI hQ hx hb hr hlocks hAe hP hS rfl rfl dX3_count_71
  replace h := fx_ite_f s1_2 h
  by_cases s1_3 : p1 = 3
  · replace h := fx_ite_t s1_3 h
    refine lv_tableIn (tgt := 72) hx hb dX3_count_1 (by rw [s1_3]; decide) (by rw [s1_3]; decide) (off := 71) (by rw [s1_3]; rfl) (by decide) ?_
    refine lv_aload_n hx hb dX3_count_72 rfl (lv_at hl 0 rfl) ?_
    refine va_get (D := D) (ci := 3) (v := .ref (a 1)) (C := RX3) (T := TX3) (N := 11) hx hb hts i3 hown hK hP 0 rfl rfl 0 (by decide) f10 (fun _ h9 => h9) rfl dX3_count_73 ?_
    obtain ⟨r76, q76, h⟩ := bnd1_inv h
    refine kVI (n := 0) (As := []) (rest := []) CF hl hK hP hD hS hA (c_X2_wholeBits l D cI (a 1) (a 2) (a 3) (a 4) (a 5) (a 6) (a 7) (a 8) no  r76 q76) gX3_count_X2_wholeBits rfl dX3_count_76 (by decide +kernel) ⟨⟨rfl, rfl⟩, ⟨Nat.le_of_ble_eq_true rfl, Nat.le_of_ble_eq_true rfl⟩, Nat.zero_le _, Nat.zero_le _⟩ (JN.ro [1, 2, 3, 4, 5, 6, 7, 8] rfl rfl) 1 rfl ⟨rfl, rfl⟩ rfl rfl (Nat.le_of_ble_eq_true rfl) (fun H locs hP hD hS => ?_)
    obtain rfl := rtv1 h
    exact rI hQ hx hb hr hlocks hAe hP hS rfl rfl dX3_count_79
  replace h := fx_ite_f s1_3 h
  by_cases s1_4 : p1 = 4
  · replace h := fx_ite_t s1_4 h
    refine lv_tableIn (tgt := 80) hx hb dX3_count_1 (by rw [s1_4]; decide) (by rw [s1_4]; decide) (off := 79) (by rw [s1_4]; rfl) (by decide) ?_
    refine lv_aload_n hx hb dX3_count_80 rfl (lv_at hl 0 rfl) ?_
    refine va_get (D := D) (ci := 3) (v := .ref (a 1)) (C := RX3) (T := TX3) (N := 11) hx hb hts i3 hown hK hP 0 rfl rfl 0 (by decide) f10 (fun _ h9 => h9) rfl dX3_count_81 ?_
    obtain ⟨r84, q84, h⟩ := bnd1_inv h
    refine kVI (n := 0) (As := []) (rest := []) CF hl hK hP hD hS hA (c_X2_wearOfAll l D cI (a 1) (a 2) (a 3) (a 4) (a 5) (a 6) (a 7) (a 8) no  r84 q84) gX3_count_X2_wearOfAll rfl dX3_count_84 (by decide +kernel) ⟨⟨rfl, rfl⟩, ⟨Nat.le_of_ble_eq_true rfl, Nat.le_of_ble_eq_true rfl⟩, Nat.zero_le _, Nat.zero_le _⟩ (JN.ro [1, 2, 3, 4, 5, 6, 7, 8] rfl rfl) 1 rfl ⟨rfl, rfl⟩ rfl rfl (Nat.le_of_ble_eq_true rfl) (fun H locs hP hD hS => ?_)
    obtain rfl := rtv1 h
    exact rI hQ hx hb hr hlocks hAe hP hS rfl rfl dX3_count_87
  replace h := fx_ite_f s1_4 h
  by_cases s1_5 : p1 = 5
  · replace h := fx_ite_t s1_5 h
    refine lv_tableIn (tgt := 88) hx hb dX3_count_1 (by rw [s1_5]; decide) (by rw [s1_5]; decide) (off := 87) (by rw [s1_5]; rfl) (by decide) ?_
    refine lv_aload_n hx hb dX3_count_88 rfl (lv_at hl 0 rfl) ?_
    refine va_get (D := D) (ci := 3) (v := .ref (a 1)) (C := RX3) (T := TX3) (N := 11) hx hb hts i3 hown hK hP 0 rfl rfl 0 (by decide) f10 (fun _ h9 => h9) rfl dX3_count_89 ?_
    obtain ⟨r92, q92, h⟩ := bnd1_inv h
    refine kVI (n := 0) (As := []) (rest := []) CF hl hK hP hD hS hA (c_X2_mendedByAll l D cI (a 1) (a 2) (a 3) (a 4) (a 5) (a 6) (a 7) (a 8) no  r92 q92) gX3_count_X2_mendedByAll rfl dX3_count_92 (by decide +kernel) ⟨⟨rfl, rfl⟩, ⟨Nat.le_of_ble_eq_true rfl, Nat.le_of_ble_eq_true rfl⟩, Nat.zero_le _, Nat.zero_le _⟩ (JN.ro [1, 2, 3, 4, 5, 6, 7, 8] rfl rfl) 1 rfl ⟨rfl, rfl⟩ rfl rfl (Nat.le_of_ble_eq_true rfl) (fun H locs hP hD hS => ?_)
    obtain rfl := rtv1 h
    exact rI hQ hx hb hr hlocks hAe hP hS rfl rfl dX3_count_95
  replace h := fx_ite_f s1_5 h
  by_cases s1_6 : p1 = 6
  · replace h := fx_ite_t s1_6 h
    refine lv_tableIn (tgt := 96) hx hb dX3_count_1 (by rw [s1_6]; decide) (by rw [s1_6]; decide) (off := 95) (by rw [s1_6]; rfl) (by decide) ?_
    refine lv_aload_n hx hb dX3_count_96 rfl (lv_at hl 0 rfl) ?_
    refine va_get (D := D) (ci := 3) (v := .int rs) (C := RX3) (T := TX3) (N := 11) hx hb hts i3 hown hK hP 0 rfl rfl 6 (by decide) f37 (fun _ h9 => h9) rfl dX3_count_97 ?_
    obtain rfl := rtv1 h
    exact rI hQ hx hb hr hlocks hAe hP hS rfl rfl dX3_count_100
  replace h := fx_ite_f s1_6 h
  by_cases s1_7 : p1 = 7
  · replace h := fx_ite_t s1_7 h
    refine lv_tableIn (tgt := 101) hx hb dX3_count_1 (by rw [s1_7]; decide) (by rw [s1_7]; decide) (off := 100) (by rw [s1_7]; rfl) (by decide) ?_
    refine lv_aload_n hx hb dX3_count_101 rfl (lv_at hl 0 rfl) ?_
    refine va_get (D := D) (ci := 3) (v := .ref (a 25)) (C := RX3) (T := TX3) (N := 11) hx hb hts i3 hown hK hP 0 rfl rfl 4 (by decide) f29 (fun _ h9 => h9) rfl dX3_count_102 ?_
    refine va_getN (D := D) (ci := 0) (v := .int lz) (C := RX0) (T := TX0) (N := 2) hx hb hts i0 hown hK hP 25 rfl rfl 1 (by decide) f275 (fun _ h9 => h9) rfl dX3_count_105 ?_
    obtain rfl := rtv1 h
    exact rI hQ hx hb hr hlocks hAe hP hS rfl rfl dX3_count_108
  replace h := fx_ite_f s1_7 h
  refine lv_tableOut (tgt := 109) hx hb dX3_count_1 (by have a_s1_0 : Int32.toInt p1 ≠ 0 := fx_toInt_ne s1_0; have a_s1_1 : Int32.toInt p1 ≠ 1 := fx_toInt_ne s1_1; have a_s1_2 : Int32.toInt p1 ≠ 2 := fx_toInt_ne s1_2; have a_s1_3 : Int32.toInt p1 ≠ 3 := fx_toInt_ne s1_3; have a_s1_4 : Int32.toInt p1 ≠ 4 := fx_toInt_ne s1_4; have a_s1_5 : Int32.toInt p1 ≠ 5 := fx_toInt_ne s1_5; have a_s1_6 : Int32.toInt p1 ≠ 6 := fx_toInt_ne s1_6; have a_s1_7 : Int32.toInt p1 ≠ 7 := fx_toInt_ne s1_7; omega) (by decide) ?_
  refine lv_iload_n hx hb dX3_count_109 rfl (lv_at hl 1 rfl) ?_
  refine lv_bipush (v := 10) hx hb dX3_count_110 (by decide) ?_
  refine lv_icmp_le (tgt := 133) hx hb dX3_count_112 (by decide) (fun c112 => ?_) (fun c112 => ?_)
  · replace h := fx_ite_t c112 h
    refine lv_bipush (v := (-9)) hx hb dX3_count_133 (by decide) ?_
    obtain rfl := rtv1 h
    exact rI hQ hx hb hr hlocks hAe hP hS rfl rfl dX3_count_135
  · replace h := fx_ite_f c112 h
    refine lv_iload_n hx hb dX3_count_115 rfl (lv_at hl 1 rfl) ?_
    refine lv_bipush (v := 16) hx hb dX3_count_116 (by decide) ?_
    refine lv_icmp_gt (tgt := 133) hx hb dX3_count_118 (by decide) (fun c118 => ?_) (fun c118 => ?_)
    · replace h := fx_ite_t c118 h
      refine lv_bipush (v := (-9)) hx hb dX3_count_133 (by decide) ?_
      obtain rfl := rtv1 h
      exact rI hQ hx hb hr hlocks hAe hP hS rfl rfl dX3_count_135
    · replace h := fx_ite_f c118 h
      refine lv_aload_n hx hb dX3_count_121 rfl (lv_at hl 0 rfl) ?_
      refine va_get (D := D) (ci := 3) (v := .ref (a 28)) (C := RX3) (T := TX3) (N := 11) hx hb hts i3 hown hK hP 0 rfl rfl 7 (by decide) f41 (fun _ h9 => h9) rfl dX3_count_122 ?_
      refine lv_iload_n hx hb dX3_count_125 rfl (lv_at hl 1 rfl) ?_
      refine lv_bipush (v := 10) hx hb dX3_count_126 (by decide) ?_
      refine lv_isub hx hb dX3_count_128 ?_
      obtain ⟨g129, h⟩ := chk_inv h
      refine va_iald (n := 7) (f := rf) hx hb hK hP 28 0 rfl rfl g129 dX3_count_129 ?_
      refine lv_goto (tgt := 135) hx hb dX3_count_130 (by decide) ?_
      obtain rfl := rtv1 h
      exact rI hQ hx hb hr hlocks hAe hP hS rfl rfl dX3_count_135
