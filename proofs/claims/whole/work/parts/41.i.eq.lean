/-! ### storm -/
theorem shb : ∀ s, s < 128 → ∀ i, i < 7 → (((nI s >>> (nI i &&& 31)) &&& (1 : Int32)) = 0 ↔ s.testBit i = false) := by decide +kernel
theorem hasb : ∀ s, s < 128 → ∀ i, i < 7 → M_X4_has (nI s) (nI i) = some (if s.testBit i then 1 else 0) := by decide +kernel
theorem tm1 : ∀ t, t ≤ 20 → 2 ≤ t → (nI t - (1 : Int32)) = nI (t - 1) := by decide +kernel
def stD (P T s : Nat) : Nat → Nat → SV → SV
  | 0, _, v => v
  | k + 1, i, v => stD P T s k (i + 1) (dyS P T (if s.testBit i then 2 else 1) (-9) v)
def wtN (t s : Nat) : Nat → Nat → Nat → Nat
  | 0, _, a => a
  | k + 1, i, a => wtN t s k (i + 1) (a * (if s.testBit i then 1 else t - 1))
theorem stD_s (P T s k i : Nat) (v : SV) : stD P T s (k + 1) i v = stD P T s k (i + 1) (dyS P T (if s.testBit i then 2 else 1) (-9) v) := rfl
theorem wtN_s (t s k i a : Nat) : wtN t s (k + 1) i a = wtN t s k (i + 1) (a * (if s.testBit i then 1 else t - 1)) := rfl
theorem wtN_le {t s : Nat} (ht : t ≤ 20) : ∀ k i a, wtN t s k i a ≤ a * 20 ^ k
  | 0, i, a => by unfold wtN; rw [Nat.pow_zero, Nat.mul_one]; exact Nat.le_refl _
  | k + 1, i, a => by
    unfold wtN
    have h := wtN_le (t := t) (s := s) ht k (i + 1) (a * (if s.testBit i then 1 else t - 1))
    have h2 : (if s.testBit i then 1 else t - 1) ≤ 20 := by split <;> omega
    have h3 : a * (if s.testBit i then 1 else t - 1) * 20 ^ k ≤ a * 20 * 20 ^ k := Nat.mul_le_mul_right _ (Nat.mul_le_mul_left _ h2)
    rw [Nat.pow_succ, Nat.mul_comm (20 ^ k) 20, ← Nat.mul_assoc]
    exact Nat.le_trans h h3
theorem weather_c {no : SV} {P T d n t s : Nat} (w : WF no P T) (hd : sDa no = nI d) (hd2 : d ≤ 999) (hn : n ≤ 7) (ht : t ≤ 20) (ht2 : 2 ≤ t) (hs : s < 128) (mi : SV) : M_X3_weather no mi (nI n) (nI t) (nI s) = some (lN (wtN t s n 0 1), stD P T s n 0 no) := by
  unfold M_X3_weather
  rw [become_c, b1s]
  refine fuelP (fun _ _ _ => none) (B_X3_weather_17 (nI n) (nI t) (nI s) no) (fun k f => ∀ (i a : Nat) (v : SV) (d : Nat), WF v P T → sDa v = nI d → d ≤ 999 + i → i ≤ n → n - i < k → f (lN a) (nI i) v = some (lN (wtN t s (n - i) i a), stD P T s (n - i) i v)) (fun i _ _ _ _ _ _ _ h => absurd h (Nat.not_lt_zero _)) (fun k f hf i a v d w hd hd2 hi hk => ?_) FU 0 1 no d w hd (by omega) (Nat.zero_le _) (by rw [FU_eq]; omega)
  unfold B_X3_weather_17
  rw [if_le (by omega) (by omega)]
  by_cases hh : n ≤ i
  · rw [if_pos hh, show n - i = 0 by omega]; rfl
  · rw [if_neg hh, tm1 t ht ht2, nI_l (by omega), lM, show (1 : Int64) = lN 1 from rfl, lM, ad1, show n - i = (n - (i + 1)) + 1 by omega]
    by_cases hb : s.testBit i = true
    · have q2 : M_X2_pass v 1 2 (-9) = some (dyS P T 2 (-9) v) := pass_c (P := P) (T := T) (x := 2) (by omega) (-9) (N := 1) (by omega) w hd (by omega)
      obtain ⟨w', hd'⟩ := dyS_wf (P := P) (T := T) (x := 2) (by omega) (-9) w hd (by omega)
      rw [if_neg (fun x => by rw [(shb s hs i (by omega)).mp x] at hb; exact absurd hb (by decide)), q2, b1s, hf (i + 1) _ _ (d + 1) w' hd' (by omega) (by omega) (by omega)]
      rw [wtN_s, stD_s, if_pos hb, if_pos hb]
    · have q1 : M_X2_pass v 1 1 (-9) = some (dyS P T 1 (-9) v) := pass1 w hd (by omega)
      obtain ⟨w', hd'⟩ := dyS_wf (P := P) (T := T) (x := 1) (by omega) (-9) w hd (by omega)
      rw [if_pos ((shb s hs i (by omega)).mpr (by simpa using hb)), q1, b1s, hf (i + 1) _ _ (d + 1) w' hd' (by omega) (by omega) (by omega)]
      rw [wtN_s, stD_s, if_neg hb, if_neg hb]
theorem weather_m {v : SV} {r : Nat → Int32} {P T d n t s : Nat} (hr : RR v (-9) r) (w : WF v P T) (hd : sDa v = nI d) (hd2 : d ≤ 999) (hn : n ≤ 7) (ht : t ≤ 20) (ht2 : 2 ≤ t) (hs : s < 128) (x1 x4 : Int32) (x5 x7 : Int64) (ss re : Nat → Int32) (K : Int64 → (Nat → Int32) → Option (Int64 × (Nat → Int32) × (Nat → Int32))) : ∃ r', RR (stD P T s n 0 v) (-9) r' ∧ fuel (fun _ _ _ => none) (B_X4_storm_122 x1 (nI n) (nI t) x4 x5 x7 (nI s) ss re K) FU 1 0 r = K (lN (wtN t s n 0 1)) r' := by
  refine fuelP (fun _ _ _ => none) (B_X4_storm_122 x1 (nI n) (nI t) x4 x5 x7 (nI s) ss re K) (fun k f => ∀ (i a : Nat) (v : SV) (r : Nat → Int32) (d : Nat), RR v (-9) r → WF v P T → sDa v = nI d → d ≤ 999 + i → i ≤ n → n - i < k → ∃ r', RR (stD P T s (n - i) i v) (-9) r' ∧ f (lN a) (nI i) r = K (lN (wtN t s (n - i) i a)) r') (fun i _ _ _ _ _ _ _ _ _ h => absurd h (Nat.not_lt_zero _)) (fun k f hf i a v r d hr w hd hd2 hi hk => ?_) FU 0 1 v r d hr w hd (by omega) (Nat.zero_le _) (by rw [FU_eq]; omega)
  unfold B_X4_storm_122
  rw [if_le (by omega) (by omega)]
  by_cases hh : n ≤ i
  · rw [if_pos hh, show n - i = 0 by omega]; exact ⟨r, hr, rfl⟩
  · simp only [hasb s hs i (by omega), b1s]
    rw [if_neg hh, tm1 t ht ht2, nI_l (by omega), lM, show (1 : Int64) = lN 1 from rfl, lM, ad1, show n - i = (n - (i + 1)) + 1 by omega]
    by_cases hb : s.testBit i = true
    · obtain ⟨w', hd'⟩ := dyS_wf (P := P) (T := T) (x := 2) (by omega) (-9) w hd (by omega)
      obtain ⟨r1, h1, e1⟩ := day_m (P := P) (T := T) (x := 2) (by omega) hr w hd (by omega)
      have e1' : M_X4_day r 2 = some r1 := e1
      rw [if_pos hb, if_neg (show ¬ (1 : Int32) = 0 by decide), if_neg (show ¬ (1 : Int32) = 0 by decide), e1', b1s]
      rw [wtN_s, stD_s, if_pos hb, if_pos hb]
      exact hf (i + 1) _ _ r1 (d + 1) h1 w' hd' (by omega) (by omega) (by omega)
    · obtain ⟨w', hd'⟩ := dyS_wf (P := P) (T := T) (x := 1) (by omega) (-9) w hd (by omega)
      obtain ⟨r1, h1, e1⟩ := day_m (P := P) (T := T) (x := 1) (by omega) hr w hd (by omega)
      have e1' : M_X4_day r 1 = some r1 := e1
      rw [if_neg hb, if_pos rfl, if_pos rfl, e1', b1s]
      rw [wtN_s, stD_s, if_neg hb, if_neg hb]
      exact hf (i + 1) _ _ r1 (d + 1) h1 w' hd' (by omega) (by omega) (by omega)
theorem pow_le {t n : Nat} (ht : t ≤ 20) (hn : n ≤ 7) : t ^ n ≤ 1280000000 := Nat.le_trans (Nat.pow_le_pow_left ht n) (Nat.le_trans (Nat.pow_le_pow_right (by decide) hn) (by decide))
theorem pow2_le {n : Nat} (hn : n ≤ 7) : 2 ^ n ≤ 128 := Nat.le_trans (Nat.pow_le_pow_right (by decide) hn) (by decide)
theorem below_c {n t : Nat} (hn : n ≤ 7) (ht : t ≤ 20) (x4 : Int32) (x5 : Int64) (no mi : SV) (rf : Nat → Int32) : fuel (fun _ _ => none) (B_X3_storm_148 (nI n) (nI t) x4 x5 no mi rf) FU 1 0 = bnd1 (M_X3_leastTerms x5 (lN (t ^ n)) x4) fun r173 => some (r173, mi, rf) := by
  refine fuelP (fun _ _ => none) (B_X3_storm_148 (nI n) (nI t) x4 x5 no mi rf) (fun k f => ∀ i, i ≤ n → n - i < k → f (lN (t ^ i)) (nI i) = bnd1 (M_X3_leastTerms x5 (lN (t ^ n)) x4) fun r173 => some (r173, mi, rf)) (fun i _ h => absurd h (Nat.not_lt_zero _)) (fun k f hf i hi hk => ?_) FU 0 (Nat.zero_le _) (by rw [FU_eq]; omega)
  unfold B_X3_storm_148
  rw [if_le (by omega) (by omega)]
  by_cases hh : n ≤ i
  · rw [if_pos hh, show i = n by omega]
  · rw [if_neg hh, nI_l (by omega), lM, ← Nat.pow_succ, ad1]
    exact hf (i + 1) (by omega) (by omega)
theorem below_m {n t : Nat} (hn : n ≤ 7) (ht : t ≤ 20) (x1 x4 : Int32) (x5 : Int64) (ss mm re : Nat → Int32) : fuel (fun _ _ => none) (B_X4_storm_75 x1 (nI n) (nI t) x4 x5 ss mm re) FU 1 0 = fuel (fun _ _ _ => none) (B_X4_storm_97 x1 (nI n) (nI t) x4 (lN (t ^ n)) ss re) FU x5 0 mm := by
  refine fuelP (fun _ _ => none) (B_X4_storm_75 x1 (nI n) (nI t) x4 x5 ss mm re) (fun k f => ∀ i, i ≤ n → n - i < k → f (lN (t ^ i)) (nI i) = fuel (fun _ _ _ => none) (B_X4_storm_97 x1 (nI n) (nI t) x4 (lN (t ^ n)) ss re) FU x5 0 mm) (fun i _ h => absurd h (Nat.not_lt_zero _)) (fun k f hf i hi hk => ?_) FU 0 (Nat.zero_le _) (by rw [FU_eq]; omega)
  unfold B_X4_storm_75
  rw [if_le (by omega) (by omega)]
  by_cases hh : n ≤ i
  · rw [if_pos hh, show i = n by omega]
  · rw [if_neg hh, nI_l (by omega), lM, ← Nat.pow_succ, ad1]
    exact hf (i + 1) (by omega) (by omega)
theorem eq_storm {no : SV} {ss rf re : Nat → Int32} (h : ST no ss) (q : RF rf re) (mi : SV) (mm : Nat → Int32) (a b c e : Int32) : ∃ r mi' rf' mm' re', M_X3_storm no mi rf a b c e = some (r, mi', rf') ∧ M_X4_storm ss mm re a b c e = some (r, mm', re') ∧ RF rf' re' := by
  obtain ⟨P, T, d, w, hd, hd2, hr⟩ := id h
  have hT := w.2.1
  have refus : ∀ c : Int32, (c = -1 ∨ c = -2 ∨ c = -3 ∨ c = -4 ∨ c = -6) → ∃ r mi' rf' mm' re', (bnd2 (M_X3_refuse rf c) fun r16 u16_rf => some (((4000000000000000000 : Int64) - (Int32.toInt64 r16)), mi, u16_rf)) = some (r, mi', rf') ∧ (bnd2 (M_X4_noWide re c) fun r10 u10_re => some (r10, mm, u10_re)) = some (r, mm', re') ∧ RF rf' re' := fun c hc => by
    obtain ⟨rf', re', e1, e2, q'⟩ := refuL q hc
    rw [e1, e2, b2s, b2s]
    exact ⟨_, _, _, _, _, rfl, rfl, q'⟩
  unfold M_X3_storm M_X4_storm
  rw [isT_c, chkc, isT_m hr w, chkc, isIn_m]
  by_cases ht : 0 ≤ a ∧ a < sTh no
  · rw [if_pos ht, if_pos ht]
    rw [w.2.2.2.1] at ht
    obtain ⟨t0, ht1, rfl⟩ := ix_of (by omega) ht
    by_cases hb : b < 0
    · rw [if_pos hb, if_pos hb]; exact refus (-4) (by decide)
    rw [if_neg hb, if_neg hb]
    by_cases hc : (2 : Int32) ≤ c
    · rw [if_pos hc, if_pos hc]
      by_cases hb7 : (7 : Int32) < b
      · rw [if_pos hb7, if_pos hb7]; exact refus (-6) (by decide)
      rw [if_neg hb7, if_neg hb7]
      by_cases hc20 : c ≤ 20
      · rw [if_pos hc20, if_pos hc20]
        by_cases he : e < 0
        · rw [if_pos he, if_pos he, b1s, if_pos rfl]; exact refus (-2) (by decide)
        rw [if_neg he, if_neg he]
        by_cases he1 : e ≤ 1
        · rw [if_pos he1, if_neg (Int32.not_lt.mpr he1), b1s, if_neg (show ¬ (1 : Int32) = 0 by decide)]
          obtain ⟨n, -, hn, rfl⟩ := rng (a := 0) (b := 7) (by omega) (Int32.not_lt.mp hb) (Int32.not_lt.mp hb7) (by omega)
          obtain ⟨t, ht2, ht20, rfl⟩ := rng (a := 2) (b := 20) (by omega) hc hc20 (by omega)
          obtain ⟨p, -, hp, rfl⟩ := rng (a := 0) (b := 1) (by omega) (Int32.not_lt.mp he) he1 (by omega)
          have hpow := pow_le ht20 hn
          have hpow2 := pow2_le hn
          have hpos : 0 < t ^ n := Nat.pow_pos (by omega)
          rw [below_m hn ht20]
          have key := fuelP2 (fun _ _ _ => none) (B_X3_storm_96 (nI t0) (nI n) (nI t) (nI p) no rf) (fun _ _ _ => none) (B_X4_storm_97 (nI t0) (nI n) (nI t) (nI p) (lN (t ^ n)) ss re) (fun k f g => ∀ (i x : Nat) (mi : SV) (mm : Nat → Int32), i ≤ 2 ^ n → 2 ^ n - i < k → x ≤ i * 1280000000 → ∃ o mi' mm', f (lN x) (nI i) mi = some (o, mi', rf) ∧ g (lN x) (nI i) mm = some (o, mm', re)) (fun i x mi mm _ h => absurd h (Nat.not_lt_zero _)) (fun k f g hf i x mi mm hi hk hx => by
            unfold B_X3_storm_96 B_X4_storm_97
            rw [sh1 n (by omega), if_le (by omega) (by omega), if_le (by omega) (by omega)]
            by_cases hh : 2 ^ n ≤ i
            · rw [if_pos hh, if_pos hh, below_c hn ht20]
              obtain ⟨r, a1, a2⟩ := terms_eq (A := x) (B := t ^ n) (C := t ^ n) (by omega) (by omega) hpos (Or.inl rfl) hp
              rw [a1, a2, b1s, b1s]
              exact ⟨_, _, _, rfl, rfl⟩
            · have hw : wtN t i n 0 1 ≤ 1280000000 := Nat.le_trans (wtN_le ht20 n 0 1) (by rw [Nat.one_mul]; exact pow_le (Nat.le_refl _) hn)
              obtain ⟨r1, h1, e1⟩ := weather_m (s := i) hr w hd hd2 hn ht20 ht2 (by omega) (nI t0) (nI p) (lN x) (lN (t ^ n)) ss re (fun x10 mm => bnd1 (M_X4_isWhole mm (nI t0)) fun r186 => if r186 = 0 then g (lN x + (0 : Int64)) (nI i + 1) mm else g (lN x + x10) (nI i + 1) mm)
              rw [if_neg hh, if_neg hh, weather_c w hd hd2 hn ht20 ht2 (by omega), b2s, copies_m, b1s, e1, isWhole_c _ (by omega), b1s, isWhole_m _ (by omega), b1s, h1.br (by omega), ad1, l00, lA, lA]
              by_cases hv : isW (stD P T i n 0 no) t0
              · rw [if_pos hv, if_neg (show ¬ (1 : Int32) = 0 by decide), if_neg (show ¬ (1 : Int32) = 0 by decide)]
                exact hf (i + 1) _ _ _ (by omega) (by omega) (by omega)
              · rw [if_neg hv, if_pos rfl, if_pos rfl]
                exact hf (i + 1) _ _ _ (by omega) (by omega) (Nat.le_trans hx (Nat.mul_le_mul_right _ (Nat.le_succ i)))) FU
          obtain ⟨o, m1, m2, e1, e2⟩ := key 0 0 mi mm (Nat.zero_le _) (by rw [FU_eq]; omega) (by omega)
          exact ⟨_, _, _, _, _, e1, e2, q⟩
        · rw [if_neg he1, if_pos (Int32.not_le.mp he1), b1s, if_pos rfl]; exact refus (-2) (by decide)
      · rw [if_neg hc20, if_neg hc20]; exact refus (-6) (by decide)
    · rw [if_neg hc, if_neg hc]; exact refus (-4) (by decide)
  · rw [if_neg ht, if_neg ht]; exact refus (-1) (by decide)
