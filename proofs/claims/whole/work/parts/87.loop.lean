/-! the law's loop -/
theorem and63 (x : Int32) : ∃ k : Nat, k < 64 ∧ (x &&& (63 : Int32)) = nI k := by
  have e : x = nI x.toBitVec.toNat := Int32.toBitVec_inj.1 (BitVec.ofNat_toNat 32 x.toBitVec).symm
  refine ⟨x.toBitVec.toNat &&& 63, ?_, ?_⟩
  · have h : x.toBitVec.toNat &&& 63 ≤ 63 := Nat.and_le_right
    omega
  · rw [show (63 : Int32) = nI 63 from rfl]
    conv => lhs; rw [e]
    exact qa_and _ _
theorem len5 {L i : Nat} (hL : L ≤ 2560) (hi : i ≤ 2560) (h : ¬ nI L - 5 < nI i) : i + 5 ≤ L := by
  rw [Int32.lt_iff_toInt_lt, show (5 : Int32) = nI 5 from rfl, pk_sub_toInt (by omega) (by omega), nI_toInt (by omega)] at h
  omega
set_option maxHeartbeats 4000000 in
set_option maxRecDepth 100000 in
theorem law_loop {p : Program} {l : Launch} {e : Env} {s : State} {m : MethodId} {below : List Frame} {meth : Method} {c : Code} {D : va_G} {cI : ClassId} {b L : Nat} {xs : Nat → Int32} (hL : L ≤ 2560) (C0 : lw_At p s m meth c b L xs) (hnw : va_Nw (.fieldLinkNest RX3 275 "MendAnothersBreaking$Letters" "size" "I" RX3) s) (hK : va_K D vwCl [(cI, .int)] s) :
    ∀ (n i : Nat) (a bb : Nat → Nat) (wx wm : va_W) (H : Heap) (locs : List Loc) (ls : Array Slot), i ≤ L → L + 1 ≤ i + n → IW a bb cI wx wm → va_P D vwCl (wx ++ wm) H → va_D (fun q : Nat => s.heap.size ≤ q) (wx ++ wm) → va_S (fun q : Nat => s.heap.size ≤ q) s.heap H locs → lv_has ls 4 [(0, .ref b), (1, .ref (a 0)), (2, .ref (bb 0)), (3, .int (nI i))] → W p l e room_1 s m #[Value.ref b] below meth c H locs 44 1382 (lw_Z below #[Value.ref b] s) (F0 m 18 ls []) := by
  obtain ⟨hx, hb, hr, hml, hown, hts, hX, hbl, hlocks, hgv⟩ := id C0
  have CF : CallFix p m c cL_law 4 s #[Value.ref b] wsL_law RL := ⟨hx, hb, hml, hown, fun w h => hts w (wsL_law_in w h)⟩
  have hbA : ¬ (fun q : Nat => s.heap.size ≤ q) b := Nat.not_le.mpr hbl
  intro n
  induction n with
  | zero =>
    intro i a bb wx wm H locs ls h1 h2
    exact absurd h2 (by omega)
  | succ n ih =>
    intro i a bb wx wm H locs ls hi hin hI hP hD hS hl
    refine lv_iload_n hx hb dL_law_18 rfl (lv_at hl 3 rfl) ?_
    refine lv_aload_n hx hb dL_law_19 rfl (lv_at hl 0 rfl) ?_
    refine va_slen hx hb hX hbl hbA hS dL_law_20 ?_
    refine lv_iconst (v := 5) hx hb dL_law_21 (by decide) ?_
    refine lv_isub hx hb dL_law_22 ?_
    refine lv_icmp_gt (tgt := 1266) hx hb dL_law_23 (by decide) (fun c1 => ?_) (fun c1 => ?_)
    · refine lv_iconst (v := 1) hx hb dL_law_1266 (by decide) ?_
      refine va_forget (fun q hq => hS.2.2 q hq) ?_
      refine W.widen (k := 600000) (n := 7302250) (Nat.le_of_ble_eq_true rfl) (Nat.le_of_ble_eq_true rfl) ?_
      exact lw_ret hx hb hr hlocks dL_law_1267
    · have hi5 : i + 5 ≤ L := len5 hL (by omega) c1
      have tail : ∀ (wx1 wm1 : va_W) (H1 : Heap) (locs1 : List Loc), IW a bb cI wx1 wm1 → va_P D vwCl (wx1 ++ wm1) H1 → va_D (fun q : Nat => s.heap.size ≤ q) (wx1 ++ wm1) → va_S (fun q : Nat => s.heap.size ≤ q) s.heap H1 locs1 → W p l e room_1 s m #[Value.ref b] below meth c H1 locs1 44 1382 (lw_Z below #[Value.ref b] s) (F0 m 1260 ls []) := fun wx1 wm1 H1 locs1 hI1 hP1 hD1 hS1 => by
        refine lv_iinc (v := nI (i + 5)) (lv' := [(3, .int (nI (i + 5))), (0, .ref b), (1, .ref (a 0)), (2, .ref (bb 0))]) hx hb dL_law_1260 hl (k := 3) rfl (nI_add i 5) (by decide) rfl (fun ls hl => ?_)
        refine lv_goto (tgt := 18) hx hb dL_law_1263 (by decide) ?_
        exact ih (i + 5) a bb wx1 wm1 H1 locs1 ls hi5 (by omega) hI1 hP1 hD1 hS1 (lv_sub hl [1, 2, 3, 0] rfl)
      refine lv_aload_n hx hb dL_law_26 rfl (lv_at hl 0 rfl) ?_
      refine lv_iload_n hx hb dL_law_27 rfl (lv_at hl 3 rfl) ?_
      refine va_sld hx hb hX hbl hbA hS (vp_in_nI (show i < L by omega) (by omega)) dL_law_28 ?_
      refine lv_bipush (v := 63) hx hb dL_law_29 (by decide) ?_
      refine lv_iand hx hb dL_law_31 ?_
      obtain ⟨k, hk, ek⟩ := and63 (xs (nI i).toNatClampNeg)
      rw [ek]
      by_cases k0 : k = 0
      · subst k0
        refine lv_tableIn (tgt := 208) hx hb dL_law_32 (by decide) (by decide) (off := 176) rfl (by decide) ?_
        exact lc_letter hL CF hX hbl hK hI hP hD hS hl hi5 tail
      by_cases k1 : k = 1
      · subst k1
        refine lv_tableIn (tgt := 231) hx hb dL_law_32 (by decide) (by decide) (off := 199) rfl (by decide) ?_
        exact lc_lane hL CF hX hbl hK hI hP hD hS hl hi5 tail
      by_cases k2 : k = 2
      · subst k2
        refine lv_tableIn (tgt := 244) hx hb dL_law_32 (by decide) (by decide) (off := 212) rfl (by decide) ?_
        exact lc_person hL CF hX hbl hK hI hP hD hS hl hi5 tail
      by_cases k3 : k = 3
      · subst k3
        refine lv_tableIn (tgt := 277) hx hb dL_law_32 (by decide) (by decide) (off := 245) rfl (by decide) ?_
        exact lc_thing hL CF hX hbl hK hI hP hD hS hl hi5 tail
      by_cases k4 : k = 4
      · subst k4
        refine lv_tableIn (tgt := 310) hx hb dL_law_32 (by decide) (by decide) (off := 278) rfl (by decide) ?_
        exact lc_breaks hL CF hX hbl hK hI hP hD hS hl hi5 tail
      by_cases k5 : k = 5
      · subst k5
        refine lv_tableIn (tgt := 343) hx hb dL_law_32 (by decide) (by decide) (off := 311) rfl (by decide) ?_
        exact lc_rusts hL CF hX hbl hK hI hP hD hS hl hi5 tail
      by_cases k6 : k = 6
      · subst k6
        refine lv_tableIn (tgt := 366) hx hb dL_law_32 (by decide) (by decide) (off := 334) rfl (by decide) ?_
        exact lc_says hL CF hX hbl hK hI hP hD hS hl hi5 tail
      by_cases k7 : k = 7
      · subst k7
        refine lv_tableIn (tgt := 399) hx hb dL_law_32 (by decide) (by decide) (off := 367) rfl (by decide) ?_
        exact lc_mends hL CF hX hbl hK hI hP hD hS hl hi5 tail
      by_cases k8 : k = 8
      · subst k8
        refine lv_tableIn (tgt := 432) hx hb dL_law_32 (by decide) (by decide) (off := 400) rfl (by decide) ?_
        exact lc_wears hL CF hX hbl hK hI hP hD hS hl hi5 tail
      by_cases k9 : k = 9
      · subst k9
        refine lv_tableIn (tgt := 465) hx hb dL_law_32 (by decide) (by decide) (off := 433) rfl (by decide) ?_
        exact lc_skill hL CF hX hbl hK hI hP hD hS hl hi5 tail
      by_cases k10 : k = 10
      · subst k10
        refine lv_tableIn (tgt := 498) hx hb dL_law_32 (by decide) (by decide) (off := 466) rfl (by decide) ?_
        exact lc_turn hL CF hX hbl hK hI hP hD hS hl hi5 tail
      by_cases k11 : k = 11
      · subst k11
        refine lv_tableIn (tgt := 541) hx hb dL_law_32 (by decide) (by decide) (off := 509) rfl (by decide) ?_
        exact lc_days hL CF hX hbl hK hI hP hD hS hl hi5 tail
      by_cases k12 : k = 12
      · subst k12
        refine lv_tableIn (tgt := 564) hx hb dL_law_32 (by decide) (by decide) (off := 532) rfl (by decide) ?_
        exact lc_wholeThen hL CF hX hbl hK hI hP hD hS hl hi5 tail
      by_cases k13 : k = 13
      · subst k13
        refine lv_tableIn (tgt := 587) hx hb dL_law_32 (by decide) (by decide) (off := 555) rfl (by decide) ?_
        exact lc_brokenThen hL CF hX hbl hK hI hP hD hS hl hi5 tail
      by_cases k14 : k = 14
      · subst k14
        refine lv_tableIn (tgt := 620) hx hb dL_law_32 (by decide) (by decide) (off := 588) rfl (by decide) ?_
        exact lc_mendedThen hL CF hX hbl hK hI hP hD hS hl hi5 tail
      by_cases k15 : k = 15
      · subst k15
        refine lv_tableIn (tgt := 643) hx hb dL_law_32 (by decide) (by decide) (off := 611) rfl (by decide) ?_
        exact lc_again hL CF hX hbl hK hI hP hD hS hl hi5 tail
      by_cases k16 : k = 16
      · subst k16
        refine lv_tableIn (tgt := 676) hx hb dL_law_32 (by decide) (by decide) (off := 644) rfl (by decide) ?_
        exact lc_mourned hL CF hX hbl hK hI hP hD hS hl hi5 tail
      by_cases k17 : k = 17
      · subst k17
        refine lv_tableIn (tgt := 699) hx hb dL_law_32 (by decide) (by decide) (off := 667) rfl (by decide) ?_
        exact lc_first hL CF hX hbl hK hI hP hD hS hl hi5 tail
      by_cases k18 : k = 18
      · subst k18
        refine lv_tableIn (tgt := 722) hx hb dL_law_32 (by decide) (by decide) (off := 690) rfl (by decide) ?_
        exact lc_menders hL CF hX hbl hK hI hP hD hS hl hi5 tail
      by_cases k19 : k = 19
      · subst k19
        refine lv_tableIn (tgt := 745) hx hb dL_law_32 (by decide) (by decide) (off := 713) rfl (by decide) ?_
        exact lc_together hL CF hX hbl hK hI hP hD hS hl hi5 tail
      by_cases k20 : k = 20
      · subst k20
        refine lv_tableIn (tgt := 768) hx hb dL_law_32 (by decide) (by decide) (off := 736) rfl (by decide) ?_
        exact lc_lost hL CF hX hbl hK hI hP hD hS hl hi5 tail
      by_cases k21 : k = 21
      · subst k21
        refine lv_tableIn (tgt := 781) hx hb dL_law_32 (by decide) (by decide) (off := 749) rfl (by decide) ?_
        exact lc_breaker hL CF hX hbl hK hI hP hD hS hl hi5 tail
      by_cases k22 : k = 22
      · subst k22
        refine lv_tableIn (tgt := 804) hx hb dL_law_32 (by decide) (by decide) (off := 772) rfl (by decide) ?_
        exact lc_bestSays hL CF hX hbl hK hI hP hD hS hl hi5 tail
      by_cases k23 : k = 23
      · subst k23
        refine lv_tableIn (tgt := 827) hx hb dL_law_32 (by decide) (by decide) (off := 795) rfl (by decide) ?_
        exact lc_confessions hL CF hX hbl hK hI hP hD hS hl hi5 tail
      by_cases k24 : k = 24
      · subst k24
        refine lv_tableIn (tgt := 840) hx hb dL_law_32 (by decide) (by decide) (off := 808) rfl (by decide) ?_
        exact lc_learns hL CF hX hbl hK hI hP hD hS hl hi5 tail
      by_cases k25 : k = 25
      · subst k25
        refine lv_tableIn (tgt := 863) hx hb dL_law_32 (by decide) (by decide) (off := 831) rfl (by decide) ?_
        exact lc_missed hL CF hX hbl hK hI hP hD hS hl hi5 tail
      by_cases k26 : k = 26
      · subst k26
        refine lv_tableIn (tgt := 886) hx hb dL_law_32 (by decide) (by decide) (off := 854) rfl (by decide) ?_
        exact lc_due hL CF hX hbl hK hI hP hD hS hl hi5 tail
      by_cases k27 : k = 27
      · subst k27
        refine lv_tableIn (tgt := 909) hx hb dL_law_32 (by decide) (by decide) (off := 877) rfl (by decide) ?_
        exact lc_ring hL CF hX hbl hK hI hP hD hS hl hi5 tail
      by_cases k28 : k = 28
      · subst k28
        refine lv_tableIn (tgt := 942) hx hb dL_law_32 (by decide) (by decide) (off := 910) rfl (by decide) ?_
        exact lc_arranged hL CF hX hbl hK hI hP hD hS hl hi5 tail
      by_cases k29 : k = 29
      · subst k29
        refine lv_tableIn (tgt := 965) hx hb dL_law_32 (by decide) (by decide) (off := 933) rfl (by decide) ?_
        exact lc_two hL CF hX hbl hK hI hP hD hS hl hi5 tail
      by_cases k30 : k = 30
      · subst k30
        refine lv_tableIn (tgt := 1008) hx hb dL_law_32 (by decide) (by decide) (off := 976) rfl (by decide) ?_
        exact lc_storm hL CF hX hbl hK hI hP hD hS hl hi5 tail
      by_cases k31 : k = 31
      · subst k31
        refine lv_tableIn (tgt := 1062) hx hb dL_law_32 (by decide) (by decide) (off := 1030) rfl (by decide) ?_
        exact lc_mean hL CF hX hbl hK hI hP hD hS hl hi5 tail
      by_cases k32 : k = 32
      · subst k32
        refine lv_tableIn (tgt := 1086) hx hb dL_law_32 (by decide) (by decide) (off := 1054) rfl (by decide) ?_
        exact lc_whatIs hL CF hX hbl hK hI hP hD hS hl hi5 tail
      by_cases k33 : k = 33
      · subst k33
        refine lv_tableIn (tgt := 1119) hx hb dL_law_32 (by decide) (by decide) (off := 1087) rfl (by decide) ?_
        exact lc_row hL CF hX hbl hK hI hP hD hS hl hi5 tail
      by_cases k34 : k = 34
      · subst k34
        refine lv_tableIn (tgt := 1142) hx hb dL_law_32 (by decide) (by decide) (off := 1110) rfl (by decide) ?_
        exact lc_judge hL CF hX hbl hK hI hP hD hS hl hi5 tail
      by_cases k35 : k = 35
      · subst k35
        refine lv_tableIn (tgt := 1155) hx hb dL_law_32 (by decide) (by decide) (off := 1123) rfl (by decide) ?_
        exact lc_clear hL CF hX hbl hK hI hP hD hS hl hi5 tail
      by_cases k36 : k = 36
      · subst k36
        refine lv_tableIn (tgt := 1168) hx hb dL_law_32 (by decide) (by decide) (off := 1136) rfl (by decide) ?_
        exact lc_lots hL CF hX hbl hK hI hP hD hS hl hi5 tail
      by_cases k37 : k = 37
      · subst k37
        refine lv_tableIn (tgt := 1211) hx hb dL_law_32 (by decide) (by decide) (off := 1179) rfl (by decide) ?_
        exact lc_image hL CF hX hbl hK hI hP hD hS hl hi5 tail
      by_cases k38 : k = 38
      · subst k38
        refine lv_tableIn (tgt := 1224) hx hb dL_law_32 (by decide) (by decide) (off := 1192) rfl (by decide) ?_
        exact lc_on hL CF hX hbl hK hI hP hD hS hl hi5 tail
      by_cases k39 : k = 39
      · subst k39
        refine lv_tableIn (tgt := 1237) hx hb dL_law_32 (by decide) (by decide) (off := 1205) rfl (by decide) ?_
        exact lc_count hL CF hX hbl hK hI hP hD hS hl hi5 hnw tail
      refine lv_tableOut (tgt := 1260) hx hb dL_law_32 (Or.inr ?_) (by decide) (tail wx wm H locs hI hP hD hS)
      rw [nI_toInt (show k < 2 ^ 31 by omega)]
      omega
