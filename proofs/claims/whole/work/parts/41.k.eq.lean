/-! ### lots -/
theorem andm (x : Int32) : ∃ a : Nat, a < 2 ^ 31 ∧ (x &&& (2147483647 : Int32)) = nI a := by
  have e : x = nI x.toBitVec.toNat := Int32.toBitVec_inj.1 (BitVec.ofNat_toNat 32 x.toBitVec).symm
  refine ⟨x.toBitVec.toNat &&& 2147483647, ?_, ?_⟩
  · have h : x.toBitVec.toNat &&& 2147483647 ≤ 2147483647 := Nat.and_le_right
    omega
  · rw [show (2147483647 : Int32) = nI 2147483647 from rfl]
    conv => lhs; rw [e]
    exact qa_and _ _
theorem drawn_q (x : Int32) {P : Nat} (hP : P ≤ 6) : ∃ j : Nat, j ≤ P ∧ (((x &&& (2147483647 : Int32)) / (256 : Int32)) - ((x &&& (2147483647 : Int32)) / (256 : Int32)) / (nI P + 1) * (nI P + 1)) = nI j := by
  obtain ⟨a, ha, e⟩ := andm x
  have hm : a / 256 % (P + 1) < P + 1 := Nat.mod_lt _ (by omega)
  refine ⟨a / 256 % (P + 1), by omega, ?_⟩
  rw [e, ad1, show (256 : Int32) = nI 256 from rfl, pk_div ha (by omega) (by omega), pk_rem (by omega) (by omega) (by omega)]
theorem dchI_ok {γ : Type} {a : Nat} (ha : a < 2 ^ 31) (h0 : 0 < a) (A : Option γ) : dchI (nI a) A = A := by
  unfold dchI
  exact if_neg (fun e => by have := (nI_eq (a := a) (b := 0) ha (by omega)).mp e; omega)
theorem lot_eq {no : SV} {ss re : Nat → Int32} {P T d : Nat} (hr : RR no (-9) ss) (w : WF no P T) (hd : sDa no = nI d) (mi : SV) (sd : Int32) (x1 x3 x4 x5 : Int32) (K : (Nat → Int32) → Int32 → Option (Int32 × (Nat → Int32) × (Nat → Int32) × Int32)) : ∃ sd' mi' r', M_X3_breakByLot no mi sd = some (sd', mi') ∧ WF mi' P T ∧ sDa mi' = nI d ∧ RR mi' (-9) r' ∧ fuel (fun _ _ _ => none) (B_X4_lots_88 x1 x3 x4 x5 ss re K) FU 0 ss sd = K r' sd' := by
  have hP := w.1
  have hT := w.2.1
  unfold M_X3_breakByLot
  rw [become_c, b1s]
  refine fuelP2 (fun _ _ _ => none) (B_X3_breakByLot_15 no) (fun _ _ _ => none) (B_X4_lots_88 x1 x3 x4 x5 ss re K) (fun k f g => ∀ (i : Nat) (sd : Int32) (v : SV) (r : Nat → Int32), WF v P T → sDa v = nI d → RR v (-9) r → (∀ t, i ≤ t → t < T → sBr v t = sBr no t) → i ≤ T → T - i < k → ∃ sd' mi' r', f sd (nI i) v = some (sd', mi') ∧ WF mi' P T ∧ sDa mi' = nI d ∧ RR mi' (-9) r' ∧ g (nI i) r sd = K r' sd') (fun i _ _ _ _ _ _ _ _ h => absurd h (Nat.not_lt_zero _)) (fun k f g hf i sd v r wv hdv hrv hb hi hk => ?_) FU 0 sd no ss w hd hr (fun _ _ _ => rfl) (Nat.zero_le _) (by rw [FU_eq]; omega)
  unfold B_X3_breakByLot_15 B_X4_lots_88
  rw [hr.th, w.2.2.2.1, wv.2.2.2.1, if_le (by omega) (by omega), if_le (by omega) (by omega)]
  by_cases hh : T ≤ i
  · rw [if_pos hh, if_pos hh]; exact ⟨sd, v, r, rfl, wv, hdv, hrv, rfl⟩
  · rw [if_neg hh, if_neg hh, isWhole_c v (by omega), isWhole_m ss (by omega), hr.br (by omega), hb i (Nat.le_refl _) (by omega), b1s, b1s, ad1]
    by_cases hw : sBr no i = -9
    · have hi9 : i < 9 := by omega
      obtain ⟨j, hj, ej⟩ := drawn_q (sd * (1664525 : Int32) + (1013904223 : Int32)) hP
      unfold M_X4_drawn
      rw [if_pos hw, if_neg (show ¬ (1 : Int32) = 0 by decide), if_neg (show ¬ (1 : Int32) = 0 by decide), hr.pe, w.2.2.1, wv.2.2.1, ej, ad1, dchI_ok (by omega) (by omega), dchI_ok (by omega) (by omega), b2s, ofT_nI, b1s, ad4, chk_nI (by omega) (by omega), chk_nI (by omega) (by omega), chk_nI (by omega) (by omega), nI_clamp (by omega), nI_clamp (by omega), if_le (by omega) (by omega), if_eq (by omega) (by omega)]
      by_cases hjP : j = P
      · rw [if_pos (show P ≤ j by omega), if_pos hjP]
        have er : upd r (16 + 5 * i + 4) (-9) = r := by
          have e9 : r (16 + 5 * i + 4) = -9 := by rw [hrv.br hi9, hb i (Nat.le_refl _) (by omega), hw]
          rw [← e9]
          exact up_id r _
        rw [er]
        exact hf (i + 1) _ v r wv hdv hrv (fun t h1 h2 => hb t (by omega) h2) (by omega) (by omega)
      · rw [if_neg (show ¬ P ≤ j by omega), if_neg hjP]
        refine hf (i + 1) _ _ _ (wv.uBr i (Or.inr (Or.inr ⟨j, by omega, rfl⟩))) hdv (hrv.uBr i hi9 (nI j)) (fun t h1 h2 => ?_) (by omega) (by omega)
        show upd (sBr v) i (nI j) t = sBr no t
        rw [up_n (by omega)]
        exact hb t (by omega) h2
    · rw [if_neg hw, if_pos rfl, if_pos rfl]
      exact hf (i + 1) _ v r wv hdv hrv (fun t h1 h2 => hb t (by omega) h2) (by omega) (by omega)
theorem eq_lots {no : SV} {ss rf re : Nat → Int32} (h : ST no ss) (q : RF rf re) (mi : SV) (mm : Nat → Int32) (sd x y z : Int32) : ∃ r mi' rf' mm' re' sd', M_X3_lots no mi rf x y z = some (r, mi', rf') ∧ M_X4_lots ss mm re sd x y z = some (r, mm', re', sd') ∧ RF rf' re' := by
  obtain ⟨P, T, d, w, hd, hd2, hr⟩ := id h
  have hP := w.1
  have refus : ∀ c : Int32, (c = -1 ∨ c = -2 ∨ c = -3 ∨ c = -4 ∨ c = -6) → ∃ r mi' rf' mm' re' sd', (bnd2 (M_X3_refuse rf c) fun r33 u33_rf => some (r33, mi, u33_rf)) = some (r, mi', rf') ∧ (bnd2 (M_X4_no re c) fun r37 u37_re => some (r37, mm, u37_re, sd)) = some (r, mm', re', sd') ∧ RF rf' re' := fun c hc => by
    obtain ⟨rf', re', e1, e2, q'⟩ := refu q hc
    rw [e1, e2, b2s, b2s]
    exact ⟨_, _, _, _, _, _, rfl, rfl, q'⟩
  unfold M_X3_lots M_X4_lots
  rw [outside_c, b1s, isIn_m]
  by_cases h1 : 1 ≤ x
  · rw [if_pos h1, if_pos h1]
    by_cases h2 : x ≤ 20
    · rw [if_pos h2, if_pos h2, if_pos rfl]
      obtain ⟨n, hn1, hn, rfl⟩ := rng (a := 1) (b := 20) (by omega) h1 h2 (by omega)
      by_cases hz : z < 0
      · rw [if_pos hz, if_pos hz, b1s, if_pos rfl]; exact refus (-2) (by decide)
      rw [if_neg hz, if_neg hz]
      by_cases hz1 : z ≤ 1
      · rw [if_pos hz1, if_neg (Int32.not_lt.mpr hz1), b1s, if_neg (show ¬ (1 : Int32) = 0 by decide), hr.pe, w.2.2.1, if_e0 (by omega), if_e0 (by omega)]
        by_cases hP0 : P = 0
        · rw [if_pos hP0, if_pos hP0]; exact refus (-3) (by decide)
        rw [if_neg hP0, if_neg hP0]
        have key := fuelP2 (fun _ _ _ _ _ => none) (B_X3_lots_66 (nI n) z no rf) (fun _ _ _ _ => none) (B_X4_lots_68 (nI n) z ss re) (fun k f g => ∀ (i : Nat) (sd u v : Int32) (mi : SV) (mm : Nat → Int32), i ≤ n → n - i < k → ∃ o mi' mm' sd', f sd u v (nI i) mi = some (o, mi', rf) ∧ g (if z = 0 then u else v) (nI i) mm sd = some (o, mm', re, sd')) (fun i _ _ _ _ _ _ h => absurd h (Nat.not_lt_zero _)) (fun k f g hf i sd u v mi mm hi hk => by
          unfold B_X3_lots_66 B_X4_lots_68
          rw [if_le (by omega) (by omega), if_le (by omega) (by omega)]
          by_cases hh : n ≤ i
          · rw [if_pos hh, if_pos hh]
            by_cases h0 : z = 0
            · rw [if_pos h0, if_pos h0]; exact ⟨_, _, _, _, rfl, rfl⟩
            · rw [if_neg h0, if_neg h0]; exact ⟨_, _, _, _, rfl, rfl⟩
          · obtain ⟨sd', mi', r', e1, w1, d1, q1, e2⟩ := lot_eq (re := re) hr w hd mi sd (nI n) z (if z = 0 then u else v) (nI i) (fun mm sd => bnd2 (M_X4_wholeBehind mm (10 : Int32)) fun r167 u167_mm => if z = 0 then g ((if z = 0 then u else v) + r167) (nI i + 1) u167_mm sd else bnd1 (M_X4_mendedAll u167_mm) fun r187 => bnd1 (M_X4_mendedAll ss) fun r194 => g ((if z = 0 then u else v) + (r187 - r194)) (nI i + 1) u167_mm sd)
            obtain ⟨w2, d2⟩ := itD_wf (P := P) (T := T) (x := 1) (by omega) (-9) 10 w1 d1 (by omega)
            obtain ⟨r2, f1, f2⟩ := wholeBehind_m (P := P) (T := T) (N := 10) (by omega) q1 w1 d1 (by omega)
            have f1' : M_X4_wholeBehind r' 10 = some (nI (cN (itD P T 1 (-9) 10 mi') T), r2) := f1
            have p1 : M_X2_pass mi' 10 1 (-9) = some (itD P T 1 (-9) 10 mi') := pass_1 (-9) (N := 10) (by omega) w1 d1 (by omega)
            rw [if_neg hh, if_neg hh, e1, b2s, p1, b1s, wholeCount_c w2, b1s, mendedAll_c w2, b1s, mendedAll_c w, b1s, copies_m, b1s, e2, f1', b2s, mendedAll_m f2 w2, b1s, mendedAll_m hr w, b1s, ad1]
            obtain ⟨o, m1, m2, s2, g1, g2⟩ := hf (i + 1) sd' (u + nI (cN (itD P T 1 (-9) 10 mi') T)) (v + (sumF (sMe (itD P T 1 (-9) 10 mi')) P - sumF (sMe no) P)) (itD P T 1 (-9) 10 mi') r2 (by omega) (by omega)
            refine ⟨o, m1, m2, s2, g1, ?_⟩
            by_cases h0 : z = 0
            · rw [if_pos h0] at g2 ⊢
              rw [if_pos h0]
              exact g2
            · rw [if_neg h0] at g2 ⊢
              rw [if_neg h0]
              exact g2) FU
        obtain ⟨o, m1, m2, s2, e1, e2⟩ := key 0 y 0 0 mi mm (Nat.zero_le _) (by rw [FU_eq]; omega)
        rw [ite_self] at e2
        exact ⟨_, _, _, _, _, _, e1, e2, q⟩
      · rw [if_neg hz1, if_pos (Int32.not_le.mp hz1), b1s, if_pos rfl]; exact refus (-2) (by decide)
    · rw [if_neg h2, if_neg h2, if_neg (show ¬ (-6 : Int32) = 0 by decide)]; exact refus (-6) (by decide)
  · rw [if_neg h1, if_neg h1, if_neg (show ¬ (-4 : Int32) = 0 by decide)]; exact refus (-4) (by decide)
