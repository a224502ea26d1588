/-! ### row, clear, letter, image, on, judge -/
def RT (rn : Nat → Int32) (rs : Int32) (ro : Nat → Int32) (rm : Int32) : Prop := ∃ n : Nat, n ≤ 16 ∧ rs = nI n ∧ rm = nI n ∧ ∀ i, i < n → rn i = ro i
def LT (sg : Nat → Int32) (lz : Int32) (le : Nat → Int32) (lm : Int32) : Prop := ∃ n : Nat, n ≤ 96 ∧ lz = nI n ∧ lm = nI n ∧ ∀ i, i < n → sg i = le i ∧ ∃ c : Nat, c ≤ 255 ∧ sg i = nI c
theorem eq_row {rn ro rf re : Nat → Int32} {rs rm : Int32} (l : RT rn rs ro rm) (q : RF rf re) (a : Int32) : ∃ r rn' rs' rf' ro' re' rm', M_X3_row rn rs rf a = some (r, rn', rs', rf') ∧ M_X4_row ro re rm a = some (r, ro', re', rm') ∧ RT rn' rs' ro' rm' ∧ RF rf' re' := by
  obtain ⟨n, hn, rfl, rfl, hl⟩ := id l
  unfold M_X3_row M_X4_row
  rw [outside_c, b1s, wrongBy_m, b1s]
  rcases lim_cases a 99 (by omega) with ⟨k, hk, rfl, h1, h2⟩ | ⟨h1, h2⟩ | h1
  · rw [if_pos h1, if_pos (show nI k ≤ 99 from h2), if_pos rfl, if_pos rfl, show (16 : Int32) = nI 16 from rfl, if_lt (by omega) (by omega), if_eq (by omega) (by omega)]
    by_cases h : n < 16
    · rw [if_pos h, if_neg (show ¬ n = 16 by omega), if_pos rfl, chk_nI h (by omega), chk_nI h (by omega), nI_clamp (by omega), ad1]
      refine ⟨_, _, _, _, _, _, _, rfl, rfl, ⟨n + 1, by omega, rfl, rfl, fun i hi => ?_⟩, q⟩
      by_cases ei : i = n
      · subst ei; rw [up_s, up_s]
      · rw [up_n ei, up_n ei]; exact hl i (by omega)
    · rw [if_neg h, if_pos (show n = 16 by omega)]
      obtain ⟨rf', re', a1, a2, q'⟩ := refu q (c := -6) (by decide)
      rw [a1, a2, b2s, b2s]
      exact ⟨_, _, _, _, _, _, _, rfl, rfl, l, q'⟩
  · rw [if_pos h1, if_neg (show ¬ a ≤ 99 from h2), if_neg (show ¬ (-6 : Int32) = 0 by decide), if_neg (show ¬ (-6 : Int32) = 0 by decide)]
    obtain ⟨rf', re', a1, a2, q'⟩ := refu q (c := -6) (by decide)
    rw [a1, a2, b2s, b2s]
    exact ⟨_, _, _, _, _, _, _, rfl, rfl, l, q'⟩
  · rw [if_neg h1, if_neg (show ¬ (-4 : Int32) = 0 by decide), if_neg (show ¬ (-4 : Int32) = 0 by decide)]
    obtain ⟨rf', re', a1, a2, q'⟩ := refu q (c := -4) (by decide)
    rw [a1, a2, b2s, b2s]
    exact ⟨_, _, _, _, _, _, _, rfl, rfl, l, q'⟩
theorem eq_letter {sg le rf re : Nat → Int32} {lz lm : Int32} (l : LT sg lz le lm) (q : RF rf re) (a : Int32) : ∃ r sg' lz' rf' le' re' lm', M_X3_letter sg lz rf a = some (r, sg', lz', rf') ∧ M_X4_letter le re lm a = some (r, le', re', lm') ∧ LT sg' lz' le' lm' ∧ RF rf' re' := by
  obtain ⟨n, hn, rfl, rfl, hl⟩ := id l
  unfold M_X3_letter M_X4_letter
  rcases lim_cases a 255 (by omega) with ⟨k, hk, rfl, h1, h2⟩ | ⟨h1, h2⟩ | h1
  · rw [if_pos h1, if_pos h1, if_neg (Int32.not_lt.mpr (show nI k ≤ 255 from h2)), if_neg (Int32.not_lt.mpr (show nI k ≤ 255 from h2))]
    unfold M_X0_take M_X0_hasRoom
    rw [show (96 : Int32) = nI 96 from rfl, if_le (by omega) (by omega), if_eq (by omega) (by omega)]
    by_cases h : n = 96
    · rw [if_pos (show 96 ≤ n by omega), if_pos h, b1s, if_pos rfl]
      obtain ⟨rf', re', a1, a2, q'⟩ := refu q (c := -6) (by decide)
      rw [a1, a2, b2s, b2s]
      exact ⟨_, _, _, _, _, _, _, rfl, rfl, l, q'⟩
    · rw [if_neg (show ¬ 96 ≤ n by omega), if_neg h, b1s, if_neg (show ¬ (1 : Int32) = 0 by decide), b1s, if_neg (show ¬ (1 : Int32) = 0 by decide), chk_nI (by omega) (by omega), chk_nI (by omega) (by omega), b3s, nI_clamp (by omega), ad1]
      refine ⟨_, _, _, _, _, _, _, rfl, rfl, ⟨n + 1, by omega, rfl, rfl, fun i hi => ?_⟩, q⟩
      by_cases ei : i = n
      · subst ei; rw [up_s, up_s]; exact ⟨rfl, k, hk, rfl⟩
      · rw [up_n ei, up_n ei]; exact hl i (by omega)
  · rw [if_pos h1, if_pos h1, if_pos (Int32.not_le.mp (show ¬ a ≤ 255 from h2)), if_pos (Int32.not_le.mp (show ¬ a ≤ 255 from h2))]
    obtain ⟨rf', re', a1, a2, q'⟩ := refu q (c := -6) (by decide)
    rw [a1, a2, b2s, b2s]
    exact ⟨_, _, _, _, _, _, _, rfl, rfl, l, q'⟩
  · rw [if_neg h1, if_neg h1]
    obtain ⟨rf', re', a1, a2, q'⟩ := refu q (c := -4) (by decide)
    rw [a1, a2, b2s, b2s]
    exact ⟨_, _, _, _, _, _, _, rfl, rfl, l, q'⟩
theorem eq_clear {rn ro : Nat → Int32} {rs rm : Int32} (l : RT rn rs ro rm) : ∃ r rs' rm', M_X3_clear rs = some (r, rs') ∧ M_X4_clear rm = some (r, rm') ∧ RT rn rs' ro rm' := by
  obtain ⟨n, hn, e1, e2, hl⟩ := id l
  subst e1 e2
  exact ⟨_, _, _, rfl, rfl, 0, by omega, rfl, rfl, fun i hi => absurd hi (Nat.not_lt_zero _)⟩
/-- the image -/
def IM (ke : SV) (hk : Int32) (im : Nat → Int32) (hi : Int32) : Prop := hk = hi ∧ (hk = 0 ∨ ST ke im)
theorem eq_image {no ke : SV} {ss im : Nat → Int32} {hk hi : Int32} (h : ST no ss) : ∃ r ke' hk' im' hi', M_X3_image no ke hk = some (r, ke', hk') ∧ M_X4_image ss im hi = some (r, im', hi') ∧ IM ke' hk' im' hi' := by
  obtain ⟨P, T, d, w, hd, hd2, hr⟩ := id h
  unfold M_X3_image M_X4_image
  rw [become_c, b1s, copies_m, b1s, hr.da]
  exact ⟨_, _, _, _, _, rfl, rfl, rfl, Or.inr h⟩
theorem eq_on {no ke : SV} {ss im rf re : Nat → Int32} {hk hi : Int32} (h : ST no ss) (m : IM ke hk im hi) (q : RF rf re) : ∃ r no' rf' ss' re', M_X3_on no ke hk rf = some (r, no', rf') ∧ M_X4_on ss im hi re = some (r, ss', re') ∧ ST no' ss' ∧ RF rf' re' := by
  unfold M_X3_on M_X4_on
  obtain ⟨e, m2⟩ := m
  subst e
  by_cases h0 : hk = 0
  · rw [if_pos h0, if_pos h0]
    obtain ⟨rf', re', a1, a2, q'⟩ := refu q (c := -3) (by decide)
    rw [a1, a2, b2s, b2s]
    exact ⟨_, _, _, _, _, rfl, rfl, h, q'⟩
  · rcases m2 with e | m2
    · exact absurd e h0
    · obtain ⟨P, T, d, w, hd, hd2, hr⟩ := id m2
      rw [if_neg h0, if_neg h0, become_c, b1s, copies_m, b1s, hr.da]
      exact ⟨_, _, _, _, _, rfl, rfl, m2, q⟩
theorem eq_judge {no : SV} {ss rn ro : Nat → Int32} {rs rm : Int32} (h : ST no ss) (l : RT rn rs ro rm) (mi : SV) (mm : Nat → Int32) : ∃ r mi' rs' mm' rm', M_X3_judge no mi rn rs = some (r, mi', rs') ∧ M_X4_judge ss mm ro rm = some (r, mm', rm') ∧ RT rn rs' ro rm' := by
  obtain ⟨P, T, d, w, hd, hd2, hr⟩ := id h
  obtain ⟨n, hn, e1, e2, hl⟩ := id l
  unfold M_X3_judge M_X4_judge
  rw [become_c, b1s, copies_m, b1s, e1, e2]
  have key := fuelP2 (fun _ _ => none) (B_X3_judge_23 (nI n) no rn 0) (fun _ _ => none) (B_X4_judge_23 (nI n) ss ro 0) (fun k f g => ∀ (i : Nat) (u : SV) (r : Nat → Int32) (d : Nat), RR u (-9) r → WF u P T → sDa u = nI d → d ≤ 999 + i → i ≤ n → n - i < k → ∃ o mi' mm', f (nI i) u = some (o, mi', 0) ∧ g (nI i) r = some (o, mm', 0)) (fun i _ _ _ _ _ _ _ _ h => absurd h (Nat.not_lt_zero _)) (fun k f g hf i u r d hr w hd hd2 hi hk => by
    unfold B_X3_judge_23 B_X4_judge_23
    rw [if_le (by omega) (by omega), if_le (by omega) (by omega)]
    by_cases hh : n ≤ i
    · rw [if_pos hh, if_pos hh]; exact ⟨_, _, _, rfl, rfl⟩
    · obtain ⟨w', hd'⟩ := dyS_wf (P := P) (T := T) (x := 1) (by omega) (-9) w hd (by omega)
      obtain ⟨r1, h1, e1⟩ := day_m (P := P) (T := T) (x := 1) (by omega) hr w hd (by omega)
      have e1' : M_X4_day r 1 = some r1 := e1
      rw [if_neg hh, if_neg hh, wholeCount_c w, b1s, wholeSet_m hr w, b1s, bitsW_m w, b1s, chk_nI (by omega) (by omega), chk_nI (by omega) (by omega), nI_clamp (by omega), hl i (by omega), pass1 w hd (by omega), b1s, e1', b1s, ad1]
      by_cases hv : nI (cN u T) = ro i
      · rw [if_pos hv, if_pos hv]
        exact hf (i + 1) _ r1 (d + 1) h1 w' hd' (by omega) (by omega) (by omega)
      · rw [if_neg hv, if_neg hv]; exact ⟨_, _, _, rfl, rfl⟩) FU
  obtain ⟨o, mi', mm', a1, a2⟩ := key 0 no ss d hr w hd (by omega) (Nat.zero_le _) (by rw [FU_eq]; omega)
  exact ⟨o, mi', 0, mm', 0, a1, a2, 0, by omega, rfl, rfl, fun i hi => absurd hi (Nat.not_lt_zero _)⟩
/-! ### count -/
theorem wearAll_k {v : SV} {P T : Nat} (w : WF v P T) : M_X2_wearOfAll v = some (sumF (sWe v) T) := by
  have hT := w.2.1
  unfold M_X2_wearOfAll
  refine sumL (fun _ _ => none) (B_X2_wearOfAll_4 v) _ T some (by omega) (fun f acc => ?_) (fun f acc i hi => ?_)
  · unfold B_X2_wearOfAll_4
    rw [w.2.2.2.1, if_pos (Int32.le_refl _)]
  · unfold B_X2_wearOfAll_4
    rw [w.2.2.2.1, if_le (by omega) (by omega), if_neg (by omega), chk_nI (by omega) (by omega), nI_clamp (by omega), ad1]
theorem wearAll_n {v : SV} {i : Int32} {r : Nat → Int32} (h : RR v i r) {P T : Nat} (w : WF v P T) (re : Nat → Int32) (lm rm : Int32) : fuel (fun _ _ => none) (B_X4_count_86 r re lm rm) FU 0 0 = some (sumF (sWe v) T) := by
  have hT := w.2.1
  refine sumL (fun _ _ => none) (B_X4_count_86 r re lm rm) _ T some (by omega) (fun f acc => ?_) (fun f acc i hi => ?_)
  · unfold B_X4_count_86
    rw [h.th, w.2.2.2.1, if_pos (Int32.le_refl _)]
  · unfold B_X4_count_86
    rw [h.th, w.2.2.2.1, if_le (by omega) (by omega), if_neg (by omega), ofT_nI, b1s, ad3, chk_nI (by omega) (by omega), nI_clamp (by omega), h.we (by omega), ad1]
theorem sub10 : ∀ k, k < 17 → 11 ≤ k → (nI k - 10 : Int32) = nI (k - 10) ∧ ¬ nI k = 0 ∧ ¬ nI k = 1 ∧ ¬ nI k = 2 := by decide +kernel
theorem sub10b : ∀ k, k < 17 → 11 ≤ k → ¬ nI k = 3 ∧ ¬ nI k = 4 ∧ ¬ nI k = 5 ∧ ¬ nI k = 6 ∧ ¬ nI k = 7 := by decide +kernel
theorem sub10c : ∀ k, k < 17 → 11 ≤ k → ¬ nI k ≤ 10 ∧ ¬ (16 : Int32) < nI k ∧ ¬ nI k < 11 := by decide +kernel
theorem eq_count {no : SV} {ss rn ro sg le rf re : Nat → Int32} {rs rm lz lm : Int32} (h : ST no ss) (l : RT rn rs ro rm) (l2 : LT sg lz le lm) (q : RF rf re) (a : Int32) : ∃ r, M_X3_count no lz rs rf a = some r ∧ M_X4_count ss re lm rm a = some r := by
  obtain ⟨P, T, d, w, hd, hd2, hr⟩ := id h
  obtain ⟨n, hn, e1, e2, hl⟩ := id l
  obtain ⟨n2, hn2, e3, e4, hl2⟩ := id l2
  unfold M_X3_count M_X4_count
  rw [isIn_m, isIn_m, b1s, b1s, wholeBits_c w, b1s, wearAll_k w, b1s, mendedAll_c w, b1s, wholeSet_m hr w, b1s, wearAll_n hr w, mendedAll_m hr w, b1s, e1, e2, e3, e4]
  by_cases hi : 11 ≤ a ∧ a ≤ 16
  · obtain ⟨k, hk1, hk2, rfl⟩ := rng (a := 11) (b := 16) (by omega) hi.1 hi.2 (by omega)
    obtain ⟨s1, s2, s3, s4⟩ := sub10 k (by omega) hk1
    obtain ⟨s5, s6, s7, s8, s9⟩ := sub10b k (by omega) hk1
    obtain ⟨s10, s11, s12⟩ := sub10c k (by omega) hk1
    have hz : (if nI k < 11 then (0 : Int32) else if (16 : Int32) < nI k then 0 else 1) = 1 := by rw [if_neg s12, if_neg s11]
    rw [hz, if_neg (show ¬ (1 : Int32) = 0 by decide), if_neg s2, if_neg s3, if_neg s4, if_neg s5, if_neg s6, if_neg s7, if_neg s8, if_neg s9, if_neg s10, if_neg s11, s1, chk_nI (by omega) (by omega), chk_nI (by omega) (by omega), nI_clamp (by omega), q (k - 10) (by omega) (by omega)]
    exact ⟨_, rfl, rfl⟩
  have hz : (if a < 11 then (0 : Int32) else if (16 : Int32) < a then 0 else 1) = 0 := by
    by_cases x : a < 11
    · rw [if_pos x]
    · rw [if_neg x, if_pos (Int32.not_le.mp (fun y => hi ⟨Int32.not_lt.mp x, y⟩))]
  rw [hz, if_pos rfl]
  by_cases h0 : a = 0
  · subst h0
    rw [if_pos rfl, if_neg (show ¬ ((if (0 : Int32) < 0 then (0 : Int32) else if (2 : Int32) < 0 then 0 else 1) = 0) by decide)]
    exact ⟨_, rfl, congrArg some hr.pe⟩
  by_cases h1 : a = 1
  · subst h1
    rw [if_neg h0, if_pos rfl, if_neg (show ¬ ((if (1 : Int32) < 0 then (0 : Int32) else if (2 : Int32) < 1 then 0 else 1) = 0) by decide)]
    exact ⟨_, rfl, congrArg some hr.th⟩
  by_cases h2 : a = 2
  · subst h2
    rw [if_neg h0, if_neg h1, if_pos rfl, if_neg (show ¬ ((if (2 : Int32) < 0 then (0 : Int32) else if (2 : Int32) < 2 then 0 else 1) = 0) by decide)]
    exact ⟨_, rfl, congrArg some hr.da⟩
  have hz2 : (if a < 0 then (0 : Int32) else if (2 : Int32) < a then 0 else 1) = 0 := by
    have i0 := fx_toInt_ne h0
    have i1 := fx_toInt_ne h1
    have i2 := fx_toInt_ne h2
    rw [show (0 : Int32).toInt = 0 from rfl] at i0
    rw [show (1 : Int32).toInt = 1 from rfl] at i1
    rw [show (2 : Int32).toInt = 2 from rfl] at i2
    by_cases x : a < 0
    · rw [if_pos x]
    · rw [if_neg x, if_pos]
      rw [Int32.lt_iff_toInt_lt, show (0 : Int32).toInt = 0 from rfl] at x
      rw [Int32.lt_iff_toInt_lt, show (2 : Int32).toInt = 2 from rfl]
      omega
  rw [hz2, if_pos rfl, if_neg h0, if_neg h1, if_neg h2]
  by_cases h3 : a = 3
  · rw [if_pos h3, if_pos h3]; exact ⟨_, rfl, rfl⟩
  rw [if_neg h3, if_neg h3]
  by_cases h4 : a = 4
  · rw [if_pos h4, if_pos h4]; exact ⟨_, rfl, rfl⟩
  rw [if_neg h4, if_neg h4]
  by_cases h5 : a = 5
  · rw [if_pos h5, if_pos h5]; exact ⟨_, rfl, rfl⟩
  rw [if_neg h5, if_neg h5]
  by_cases h6 : a = 6
  · rw [if_pos h6, if_pos h6]; exact ⟨_, rfl, rfl⟩
  rw [if_neg h6, if_neg h6]
  by_cases h7 : a = 7
  · rw [if_pos h7, if_pos h7]; exact ⟨_, rfl, rfl⟩
  rw [if_neg h7, if_neg h7]
  by_cases h10 : a ≤ 10
  · rw [if_pos h10]; exact ⟨_, rfl, rfl⟩
  · have : (16 : Int32) < a := by
      refine Int32.not_le.mp (fun y => hi ⟨?_, y⟩)
      rw [Int32.le_iff_toInt_le, show (10 : Int32).toInt = 10 from rfl] at h10
      rw [Int32.le_iff_toInt_le, show (11 : Int32).toInt = 11 from rfl]
      omega
    rw [if_neg h10, if_pos this]; exact ⟨_, rfl, rfl⟩
