/-! ### whatIs -/
def wrO (P T t : Nat) (rn : Nat → Int32) : Nat → Nat → SV → Int32
  | 0, _, _ => 1
  | k + 1, i, v => if sWe v t = rn i then wrO P T t rn k (i + 1) (dyS P T 1 (-9) v) else 0
theorem wrO_s (P T t : Nat) (rn : Nat → Int32) (k i : Nat) (v : SV) : wrO P T t rn (k + 1) i v = if sWe v t = rn i then wrO P T t rn k (i + 1) (dyS P T 1 (-9) v) else 0 := rfl
theorem asRow_c {P T d n t : Nat} {v : SV} {rn : Nat → Int32} (w : WF v P T) (hd : sDa v = nI d) (hd2 : d ≤ 999) (ht : t < T) (hn : n ≤ 16) : ∃ mi', M_X3_mindWearsAsRow v rn (nI n) (nI t) = some (wrO P T t rn n 0 v, mi') := by
  have hT := w.2.1
  unfold M_X3_mindWearsAsRow
  refine fuelP (fun _ _ => none) (B_X3_mindWearsAsRow_2 (nI t) rn (nI n)) (fun k f => ∀ (i : Nat) (v : SV) (d : Nat), WF v P T → sDa v = nI d → d ≤ 999 + i → i ≤ n → n - i < k → ∃ mi', f (nI i) v = some (wrO P T t rn (n - i) i v, mi')) (fun i _ _ _ _ _ _ h => absurd h (Nat.not_lt_zero _)) (fun k f hf i v d w hd hd2 hi hk => ?_) FU 0 v d w hd (by omega) (Nat.zero_le _) (by rw [FU_eq]; omega)
  unfold B_X3_mindWearsAsRow_2
  rw [if_le (by omega) (by omega)]
  by_cases hh : n ≤ i
  · rw [if_pos hh, show n - i = 0 by omega]; exact ⟨_, rfl⟩
  · obtain ⟨w', hd'⟩ := dyS_wf (P := P) (T := T) (x := 1) (by omega) (-9) w hd (by omega)
    rw [if_neg hh, chk_nI (by omega) (by omega), chk_nI (by omega) (by omega), nI_clamp (by omega), nI_clamp (by omega), pass1 w hd (by omega), b1s, ad1, show n - i = (n - (i + 1)) + 1 by omega, wrO_s]
    by_cases hv : sWe v t = rn i
    · rw [if_pos hv, if_pos hv]
      exact hf (i + 1) _ (d + 1) w' hd' (by omega) (by omega) (by omega)
    · rw [if_neg hv, if_neg hv]; exact ⟨_, rfl⟩
theorem asRow_m {P T d n t : Nat} {v : SV} {r rn ro : Nat → Int32} (hr : RR v (-9) r) (w : WF v P T) (hd : sDa v = nI d) (hd2 : d ≤ 999) (ht : t < T) (hn : n ≤ 16) (hl : ∀ i, i < n → rn i = ro i) (x2 x3 x4 : Int32) (ss re : Nat → Int32) (K : Int32 → (Nat → Int32) → Option (Int32 × (Nat → Int32) × (Nat → Int32))) : ∃ mm', fuel (fun _ _ _ => none) (B_X4_whatIs_81 (nI t) x2 x3 x4 ss ro re (nI n) K) FU 1 0 r = K (wrO P T t rn n 0 v) mm' := by
  have hT := w.2.1
  have key := fuelP (fun _ _ _ => none) (B_X4_whatIs_81 (nI t) x2 x3 x4 ss ro re (nI n) K) (fun k f => ∀ (i : Nat) (v : SV) (r : Nat → Int32) (d : Nat), RR v (-9) r → WF v P T → sDa v = nI d → d ≤ 999 + i → i ≤ n → n - i < k → (∃ mm', f 1 (nI i) r = K (wrO P T t rn (n - i) i v) mm') ∧ ∃ mm', f 0 (nI i) r = K 0 mm') (fun i _ _ _ _ _ _ _ _ h => absurd h (Nat.not_lt_zero _)) (fun k f hf i v r d hr w hd hd2 hi hk => by
    unfold B_X4_whatIs_81
    simp only [if_le (show n < 2 ^ 31 by omega) (show i < 2 ^ 31 by omega)]
    by_cases hh : n ≤ i
    · simp only [if_pos hh]
      rw [show n - i = 0 by omega]; exact ⟨⟨_, rfl⟩, ⟨_, rfl⟩⟩
    · obtain ⟨w', hd'⟩ := dyS_wf (P := P) (T := T) (x := 1) (by omega) (-9) w hd (by omega)
      obtain ⟨r1, h1, e1⟩ := day_m (P := P) (T := T) (x := 1) (by omega) hr w hd (by omega)
      have e1' : M_X4_day r 1 = some r1 := e1
      obtain ⟨⟨m1, g1⟩, ⟨m0, g0⟩⟩ := hf (i + 1) _ r1 (d + 1) h1 w' hd' (by omega) (by omega) (by omega)
      simp only [if_neg hh, ofT_nI, b1s, ad3, chk_nI (show 16 + 5 * t + 3 < 61 by omega) (show (61 : Nat) < 2 ^ 31 by decide), chk_nI (show i < 16 by omega) (show (16 : Nat) < 2 ^ 31 by decide), nI_clamp (show 16 + 5 * t + 3 < 2 ^ 31 by omega), nI_clamp (show i < 2 ^ 31 by omega), hr.we (show t < 9 by omega), e1', ad1]
      rw [show n - i = (n - (i + 1)) + 1 by omega, wrO_s, hl i (by omega), show ((1 : Int32) &&& 1) = 1 from rfl, show ((1 : Int32) &&& 0) = 0 from rfl, show ((0 : Int32) &&& 1) = 0 from rfl, show ((0 : Int32) &&& 0) = 0 from rfl, ite_self]
      refine ⟨?_, ⟨m0, g0⟩⟩
      by_cases hv : sWe v t = ro i
      · rw [if_pos hv, if_pos hv]; exact ⟨m1, g1⟩
      · rw [if_neg hv, if_neg hv]; exact ⟨m0, g0⟩) FU
  exact (key 0 v r d hr w hd (by omega) (Nat.zero_le _) (by rw [FU_eq]; omega)).1
theorem eq_whatIs {no : SV} {ss rn ro rf re : Nat → Int32} {rs rm : Int32} (h : ST no ss) (l : RT rn rs ro rm) (q : RF rf re) (mi : SV) (mm : Nat → Int32) (a b : Int32) : ∃ r mi' rf' mm' re', M_X3_whatIs no mi rn rs rf a b = some (r, mi', rf') ∧ M_X4_whatIs ss mm ro re rm a b = some (r, mm', re') ∧ RF rf' re' := by
  obtain ⟨P, T, d, w, hd, hd2, hr⟩ := id h
  obtain ⟨n, hn, rfl, rfl, hl⟩ := id l
  have hT := w.2.1
  unfold M_X3_whatIs M_X4_whatIs
  rw [isT_c, chkc, isT_m hr w, chkc, isIn_m]
  by_cases ht : 0 ≤ a ∧ a < sTh no
  · rw [if_pos ht, if_pos ht]
    rw [w.2.2.2.1] at ht
    obtain ⟨t, ht1, rfl⟩ := ix_of (by omega) ht
    by_cases hb : b < 0
    · rw [if_pos hb, if_pos hb, b1s, if_pos rfl]
      obtain ⟨rf', re', e1, e2, q'⟩ := refu q (c := -2) (by decide)
      rw [e1, e2, b2s, b2s]
      exact ⟨_, _, _, _, _, rfl, rfl, q'⟩
    rw [if_neg hb, if_neg hb]
    by_cases hb1 : b ≤ 1
    · rw [if_pos hb1, if_neg (Int32.not_lt.mpr hb1), b1s, if_neg (show ¬ (1 : Int32) = 0 by decide)]
      obtain ⟨k, -, hk, rfl⟩ := rng (a := 0) (b := 1) (by omega) (Int32.not_lt.mp hb) hb1 (by omega)
      by_cases hk0 : k = 0
      · subst hk0
        rw [if_pos (show nI 0 = 0 from rfl)]
        unfold M_X3_kindsOfRow
        have key := fuelP2 (fun _ _ _ => none) (B_X3_kindsOfRow_4 (nI t) no rn (nI n)) (fun _ _ _ => none) (B_X4_whatIs_35 (nI t) (nI 0) ss ro re (nI n)) (fun k f g => ∀ (i : Nat) (x : Int32) (mi : SV) (mm : Nat → Int32), i ≤ 6 → 6 - i < k → ∃ o mi' mm', f x (nI i) mi = some (o, mi') ∧ g x (nI i) mm = some (o, mm', re)) (fun i x mi mm _ h => absurd h (Nat.not_lt_zero _)) (fun k f g hf i x mi mm hi hk => by
          unfold B_X3_kindsOfRow_4 B_X4_whatIs_35
          rw [if_pos (show nI 0 = 0 from rfl), show (6 : Int32) = nI 6 from rfl, if_le (by omega) (by omega), if_le (by omega) (by omega)]
          by_cases hh : 6 ≤ i
          · rw [if_pos hh, if_pos hh]; exact ⟨_, _, _, rfl, rfl⟩
          · have w1 : WF (sUKi no (upd (sKi no) t (nI i))) P T := w
            have d1 : sDa (sUKi no (upd (sKi no) t (nI i))) = nI d := hd
            obtain ⟨m1, e1⟩ := asRow_c (rn := rn) w1 d1 hd2 ht1 hn
            obtain ⟨m2, e2⟩ := asRow_m (hr.uKi t (by omega) (nI i)) w1 d1 hd2 ht1 hn hl (nI 0) x (nI i) ss re (fun x5 mm => if x5 = 0 then g (x ||| (0 : Int32)) (nI i + 1) mm else g (x ||| ((1 : Int32) <<< (nI i &&& 31))) (nI i + 1) mm)
            rw [if_neg hh, if_neg hh, become_c, b1s, copies_m, b1s, ofT_nI, b1s, nI_add, chk_nI (by omega) (by omega), chk_nI (by omega) (by omega), nI_clamp (by omega), nI_clamp (by omega), e1, b2s]
            rw [show 16 + 5 * t + 0 = 16 + 5 * t from rfl, e2, ad1, show x ||| (0 : Int32) = x from Int32.or_zero]
            by_cases h0 : wrO P T t rn n 0 (sUKi no (upd (sKi no) t (nI i))) = 0
            · rw [if_pos h0, if_pos h0]; exact hf (i + 1) _ _ _ (by omega) (by omega)
            · rw [if_neg h0, if_neg h0]; exact hf (i + 1) _ _ _ (by omega) (by omega)) FU
        obtain ⟨o, m1, m2, e1, e2⟩ := key 0 0 mi mm (Nat.zero_le _) (by rw [FU_eq]; omega)
        rw [show fuel (fun _ _ _ => none) (B_X3_kindsOfRow_4 (nI t) no rn (nI n)) FU 0 0 mi = some (o, m1) from e1, b2s]
        exact ⟨_, _, _, _, _, rfl, e2, q⟩
      · have hk1 : k = 1 := by omega
        subst hk1
        rw [if_neg (show ¬ nI 1 = 0 by decide)]
        unfold M_X3_figuresOfRow
        have key := fuelP2 (fun _ _ _ => none) (B_X3_figuresOfRow_4 (nI t) no rn (nI n)) (fun _ _ _ => none) (B_X4_whatIs_35 (nI t) (nI 1) ss ro re (nI n)) (fun k f g => ∀ (i : Nat) (x : Int32) (mi : SV) (mm : Nat → Int32), i ≤ 10 → 10 - i < k → ∃ o mi' mm', f x (nI i) mi = some (o, mi') ∧ g x (nI i) mm = some (o, mm', re)) (fun i x mi mm _ h => absurd h (Nat.not_lt_zero _)) (fun k f g hf i x mi mm hi hk => by
          unfold B_X3_figuresOfRow_4 B_X4_whatIs_35
          rw [if_neg (show ¬ nI 1 = 0 by decide), show (10 : Int32) = nI 10 from rfl, show (9 : Int32) = nI 9 from rfl, if_lt (by omega) (by omega), if_le (by omega) (by omega)]
          by_cases hh : 10 ≤ i
          · rw [if_pos (show 9 < i by omega), if_pos hh]; exact ⟨_, _, _, rfl, rfl⟩
          · have w1 : WF (sUFi no (upd (sFi no) t (nI i))) P T := w.uFi t i (by omega)
            have d1 : sDa (sUFi no (upd (sFi no) t (nI i))) = nI d := hd
            obtain ⟨m1, e1⟩ := asRow_c (rn := rn) w1 d1 hd2 ht1 hn
            obtain ⟨m2, e2⟩ := asRow_m (hr.uFi t (by omega) (nI i)) w1 d1 hd2 ht1 hn hl (nI 1) x (nI i) ss re (fun x5 mm => if x5 = 0 then g (x ||| (0 : Int32)) (nI i + 1) mm else g (x ||| ((1 : Int32) <<< (nI i &&& 31))) (nI i + 1) mm)
            rw [if_neg (show ¬ 9 < i by omega), if_neg hh, become_c, b1s, copies_m, b1s, ofT_nI, b1s, nI_add, chk_nI (by omega) (by omega), chk_nI (by omega) (by omega), nI_clamp (by omega), nI_clamp (by omega), e1, b2s]
            rw [e2, ad1, show x ||| (0 : Int32) = x from Int32.or_zero]
            by_cases h0 : wrO P T t rn n 0 (sUFi no (upd (sFi no) t (nI i))) = 0
            · rw [if_pos h0, if_pos h0]; exact hf (i + 1) _ _ _ (by omega) (by omega)
            · rw [if_neg h0, if_neg h0]; exact hf (i + 1) _ _ _ (by omega) (by omega)) FU
        obtain ⟨o, m1, m2, e1, e2⟩ := key 0 0 mi mm (Nat.zero_le _) (by rw [FU_eq]; omega)
        rw [show fuel (fun _ _ _ => none) (B_X3_figuresOfRow_4 (nI t) no rn (nI n)) FU 0 0 mi = some (o, m1) from e1, b2s]
        exact ⟨_, _, _, _, _, rfl, e2, q⟩
    · rw [if_neg hb1, if_pos (Int32.not_le.mp hb1), b1s, if_pos rfl]
      obtain ⟨rf', re', e1, e2, q'⟩ := refu q (c := -2) (by decide)
      rw [e1, e2, b2s, b2s]
      exact ⟨_, _, _, _, _, rfl, rfl, q'⟩
  · rw [if_neg ht, if_neg ht]
    obtain ⟨rf', re', e1, e2, q'⟩ := refu q (c := -1) (by decide)
    rw [e1, e2, b2s, b2s]
    exact ⟨_, _, _, _, _, rfl, rfl, q'⟩
/-! ### mean -/
theorem lA (a b : Nat) : lN a + lN b = lN (a + b) := (Int64.ofNat_add a b).symm
theorem lM (a b : Nat) : lN a * lN b = lN (a * b) := (Int64.ofNat_mul a b).symm
theorem l00 : (0 : Int64) = lN 0 := rfl
theorem lg0 {a : Nat} (ha : a < 2 ^ 63) : (lg_cmp (lN a) (0 : Int64) = 0) ↔ a = 0 := by
  unfold lg_cmp
  rw [l00]
  by_cases h : a = 0
  · subst h
    exact ⟨fun _ => rfl, fun _ => by decide⟩
  · rw [if_pos (show lN a > lN 0 from (pk_lLT (by omega) ha).mpr (by omega))]
    exact ⟨fun e => absurd e (by decide), fun e => absurd e h⟩
theorem dchL_ok {γ : Type} {a : Nat} (ha : a < 2 ^ 63) (h0 : 0 < a) (A : Option γ) : dchL (lN a) A = A := by
  unfold dchL
  rw [l00, if_neg (fun e => by have := (pk_lEQ ha (by omega)).mp e; omega)]
theorem eu_dec {a b m : Nat} (hb : 0 < b) (hba : b ≤ a) (h : a * b < 2 ^ m) : ∃ k, m = k + 1 ∧ b * (a % b) < 2 ^ k ∧ a % b ≤ b := by
  have h1 : a % b < b := Nat.mod_lt _ hb
  have h2 : 2 * (a % b) ≤ a := by
    have h3 : b * (a / b) + a % b = a := Nat.div_add_mod a b
    have h4 : 1 ≤ a / b := (Nat.le_div_iff_mul_le hb).mpr (by omega)
    have h5 : b * 1 ≤ b * (a / b) := Nat.mul_le_mul_left b h4
    omega
  have h6 : 1 ≤ a * b := Nat.mul_pos (by omega) hb
  cases m with
  | zero => rw [Nat.pow_zero] at h; omega
  | succ k =>
    refine ⟨k, rfl, ?_, by omega⟩
    have h7 : 2 * (b * (a % b)) ≤ a * b := by
      rw [show 2 * (b * (a % b)) = 2 * (a % b) * b by rw [← Nat.mul_assoc, Nat.mul_right_comm]]
      exact Nat.mul_le_mul_right b h2
    rw [Nat.pow_succ] at h
    omega
theorem gcd_st (a b : Nat) : Nat.gcd b (a % b) = Nat.gcd a b := ((Nat.gcd_comm a b).trans ((Nat.gcd_rec b a).trans (Nat.gcd_comm _ _))).symm
theorem eu_m : ∀ n, ∀ m a b : Nat, b ≤ a → a * b < 2 ^ m → a < 2 ^ 62 → m + 1 ≤ n → fuel (fun _ _ => none) B_X4_gcd_6 n (lN a) (lN b) = some (lN (Nat.gcd a b)) := fuelP (fun _ _ => none) B_X4_gcd_6 (fun n f => ∀ m a b : Nat, b ≤ a → a * b < 2 ^ m → a < 2 ^ 62 → m + 1 ≤ n → f (lN a) (lN b) = some (lN (Nat.gcd a b))) (fun m a b _ _ _ h => absurd h (by omega)) (fun n f hf m a b hba hm ha hn => by
  unfold B_X4_gcd_6
  by_cases h0 : b = 0
  · subst h0
    rw [if_pos ((lg0 (by omega)).mpr rfl), Nat.gcd_zero_right]
  · obtain ⟨k, rfl, h1, h2⟩ := eu_dec (by omega) hba hm
    rw [if_neg (fun e => h0 ((lg0 (by omega)).mp e)), dchL_ok (by omega) (by omega), pk_lRem (by omega) (by omega) (by omega), hf k b (a % b) h2 h1 (by omega) (by omega), gcd_st])
def finL (A B : Nat) (x4 : Int32) (g : Nat) : Option Int64 := if g = 0 then some x4.toInt64 else if x4 = 0 then some (lN (A / g)) else some (lN (B / g))
theorem fin_c {A B g : Nat} (hA : A < 2 ^ 62) (hB : B < 2 ^ 62) (hg : g < 2 ^ 62) (x4 : Int32) : (if (lg_cmp (lN g) (0 : Int64)) = 0 then some (Int32.toInt64 x4) else if x4 = 0 then dchL (lN g) (some (lN A / lN g)) else dchL (lN g) (some (lN B / lN g))) = finL A B x4 g := by
  unfold finL
  by_cases h : g = 0
  · rw [if_pos ((lg0 (by omega)).mpr h), if_pos h]
  · rw [if_neg (fun e => h ((lg0 (by omega)).mp e)), if_neg h, dchL_ok (by omega) (by omega), dchL_ok (by omega) (by omega), pk_lDiv (by omega) (by omega) (by omega), pk_lDiv (by omega) (by omega) (by omega)]
theorem eu_c {A B : Nat} (hA : A < 2 ^ 62) (hB : B < 2 ^ 62) (x4 : Int32) : ∀ n, ∀ m a b i : Nat, b ≤ a → a * b < 2 ^ m → a < 2 ^ 62 → i + m + 1 ≤ 200 → m + 1 ≤ n → fuel (fun _ _ _ => none) (B_X3_leastTerms_9 (lN A) (lN B) x4) n (lN a) (lN b) (nI i) = finL A B x4 (Nat.gcd a b) := fuelP (fun _ _ _ => none) (B_X3_leastTerms_9 (lN A) (lN B) x4) (fun n f => ∀ m a b i : Nat, b ≤ a → a * b < 2 ^ m → a < 2 ^ 62 → i + m + 1 ≤ 200 → m + 1 ≤ n → f (lN a) (lN b) (nI i) = finL A B x4 (Nat.gcd a b)) (fun m a b i _ _ _ _ h => absurd h (by omega)) (fun n f hf m a b i hba hm ha hi hn => by
  unfold B_X3_leastTerms_9
  rw [show (200 : Int32) = nI 200 from rfl, if_le (by omega) (by omega), if_neg (show ¬ 200 ≤ i by omega)]
  by_cases h0 : b = 0
  · subst h0
    rw [if_pos ((lg0 (by omega)).mpr rfl), Nat.gcd_zero_right]
    exact fin_c hA hB ha x4
  · obtain ⟨k, rfl, h1, h2⟩ := eu_dec (by omega) hba hm
    rw [if_neg (fun e => h0 ((lg0 (by omega)).mp e)), dchL_ok (by omega) (by omega), pk_lRem (by omega) (by omega) (by omega), ad1, hf k b (a % b) (i + 1) h2 h1 (by omega) (by omega) (by omega), gcd_st])
theorem p62 {a b : Nat} (ha : a < 2 ^ 40) (hb : b < 2 ^ 40) : a * b < 2 ^ 80 := by
  have h1 : a * b ≤ a * (2 ^ 40) := Nat.mul_le_mul_left a (by omega)
  omega
theorem fuel_s {α : Type} (z : α) (F : α → α) (n : Nat) : fuel z F (n + 1) = F (fuel z F n) := rfl
theorem FU_s : FU = 4999 + 1 := rfl
theorem gcd_m {a b : Nat} (ha : a < 2 ^ 40) (hb : b < 2 ^ 40) : M_X4_gcd (lN a) (lN b) = some (lN (Nat.gcd a b)) := by
  unfold M_X4_gcd
  by_cases h : b ≤ a
  · exact eu_m FU 80 a b h (p62 ha hb) (by omega) (by rw [FU_eq]; omega)
  · rw [FU_s, fuel_s]
    have e := eu_m 4999 80 b a (by omega) (p62 hb ha) (by omega) (by omega)
    generalize fuel (fun _ _ => none) B_X4_gcd_6 4999 = f at e
    unfold B_X4_gcd_6
    rw [if_neg (fun e => (show b ≠ 0 by omega) ((lg0 (by omega)).mp e)), dchL_ok (by omega) (by omega), pk_lRem (by omega) (by omega) (by omega), Nat.mod_eq_of_lt (by omega), e, Nat.gcd_comm]
theorem terms_c {A B : Nat} (hA : A < 2 ^ 40) (hB : B < 2 ^ 40) (x4 : Int32) : M_X3_leastTerms (lN A) (lN B) x4 = finL A B x4 (Nat.gcd B A) := by
  unfold M_X3_leastTerms
  by_cases h : A ≤ B
  · exact eu_c (by omega) (by omega) x4 FU 80 B A 0 h (p62 hB hA) (by omega) (by omega) (by rw [FU_eq]; omega)
  · rw [FU_s, fuel_s, show (0 : Int32) = nI 0 from rfl]
    have e := eu_c (A := A) (B := B) (by omega) (by omega) x4 4999 80 A B 1 (by omega) (p62 hA hB) (by omega) (by omega) (by omega)
    generalize fuel (fun _ _ _ => none) (B_X3_leastTerms_9 (lN A) (lN B) x4) 4999 = f at e
    unfold B_X3_leastTerms_9
    rw [if_neg (show ¬ (200 : Int32) ≤ nI 0 by decide), if_neg (fun e => (show A ≠ 0 by omega) ((lg0 (by omega)).mp e)), dchL_ok (by omega) (by omega), pk_lRem (by omega) (by omega) (by omega), Nat.mod_eq_of_lt (by omega), ad1, e, Nat.gcd_comm]
theorem terms_eq {A B C : Nat} (hA : A < 2 ^ 40) (hB : B < 2 ^ 40) (hB0 : 0 < B) (hC : C = B ∨ A = 0) {k : Nat} (hk : k ≤ 1) : ∃ r, M_X3_leastTerms (lN A) (lN B) (nI k) = some r ∧ M_X4_partOf (lN A) (lN C) (nI k) = some r := by
  rw [terms_c hA hB]
  have hg : 0 < Nat.gcd B A := Nat.gcd_pos_of_pos_left A hB0
  unfold finL M_X4_partOf
  rw [if_neg (show ¬ Nat.gcd B A = 0 by omega)]
  by_cases hA0 : A = 0
  · subst hA0
    rw [if_pos ((lg0 (by omega)).mpr rfl), Nat.gcd_zero_right, Nat.zero_div, Nat.div_self hB0]
    by_cases h0 : k = 0
    · subst h0; exact ⟨_, rfl, rfl⟩
    · have h1 : k = 1 := by omega
      subst h1; exact ⟨_, rfl, rfl⟩
  · have hCB : C = B := by omega
    subst hCB
    have hg2 : Nat.gcd C A ≤ A := Nat.gcd_le_right C (by omega)
    rw [if_neg (fun e => hA0 ((lg0 (by omega)).mp e)), gcd_m hA hB, b1s, b1s, Nat.gcd_comm A C, dchL_ok (by omega) hg, dchL_ok (by omega) hg, pk_lDiv (by omega) hg (by omega), pk_lDiv (by omega) hg (by omega)]
    by_cases h0 : nI k = 0
    · rw [if_pos h0]; exact ⟨_, rfl, rfl⟩
    · rw [if_neg h0]; exact ⟨_, rfl, rfl⟩
/-- the wear of what is whole -/
def swN (v : SV) : Nat → Nat
  | 0 => 0
  | n + 1 => swN v n + (if isW v n then (sWe v n).toNatClampNeg else 0)
theorem sw_nI {v : SV} {P T : Nat} (w : WF v P T) {t : Nat} (ht : t < T) : sWe v t = nI (sWe v t).toNatClampNeg ∧ (sWe v t).toNatClampNeg ≤ 9 := by
  obtain ⟨-, -, ⟨a, ha, ea⟩, -⟩ := w.2.2.2.2 t ht
  rw [ea, nI_clamp (by omega)]
  exact ⟨rfl, ha⟩
theorem swN_le {v : SV} {P T : Nat} (w : WF v P T) : ∀ n, n ≤ T → swN v n ≤ 9 * n
  | 0, _ => Nat.le_refl _
  | n + 1, h => by
    have ih := swN_le w n (by omega)
    have := (sw_nI w (show n < T by omega)).2
    unfold swN
    split <;> omega
theorem swN_0 {v : SV} : ∀ n, kS (isW v) n = 0 → swN v n = 0
  | 0, _ => rfl
  | n + 1, h => by
    have h2 := (kS_none (p := isW v) (n + 1)).mp h
    unfold swN
    rw [if_neg (h2 n (by omega)), swN_0 n ((kS_none n).mpr (fun t ht => h2 t (by omega)))]
theorem sumF_sw {v : SV} {P T : Nat} (w : WF v P T) : ∀ n, n ≤ T → sumF (fun t => if isW v t then sWe v t else 0) n = nI (swN v n)
  | 0, _ => rfl
  | n + 1, h => by
    unfold sumF swN
    rw [sumF_sw w n (by omega)]
    by_cases hw : isW v n
    · rw [if_pos hw, if_pos hw, ← nI_add, ← (sw_nI w (show n < T by omega)).1]
    · rw [if_neg hw, if_neg hw, ad0, Nat.add_zero]
theorem wearWh_c {v : SV} {P T : Nat} (w : WF v P T) : M_X2_wearOfWhole v = some (nI (swN v T)) := by
  have hT := w.2.1
  rw [← sumF_sw w T (Nat.le_refl _)]
  unfold M_X2_wearOfWhole
  refine sumL (fun _ _ => none) (B_X2_wearOfWhole_4 v) _ T some (by omega) (fun f acc => ?_) (fun f acc i hi => ?_)
  · unfold B_X2_wearOfWhole_4
    rw [w.2.2.2.1, if_pos (Int32.le_refl _)]
  · unfold B_X2_wearOfWhole_4
    rw [w.2.2.2.1, if_le (by omega) (by omega), if_neg (by omega), isWhole_c v (by omega), b1s, chk_nI (by omega) (by omega), nI_clamp (by omega), ad1]
    by_cases hw : isW v i
    · rw [if_pos hw, if_pos hw, if_neg (show ¬ (1 : Int32) = 0 by decide)]
    · rw [if_neg hw, if_neg hw, if_pos rfl]
theorem refuL {rf re : Nat → Int32} (q : RF rf re) {c : Int32} (hc : c = -1 ∨ c = -2 ∨ c = -3 ∨ c = -4 ∨ c = -6) : ∃ rf' re', M_X3_refuse rf c = some (c, rf') ∧ M_X4_noWide re c = some ((4000000000000000000 : Int64) - Int32.toInt64 c, re') ∧ RF rf' re' := by
  obtain ⟨rf', re', e1, e2, q'⟩ := refu q hc
  refine ⟨rf', re', e1, ?_, q'⟩
  unfold M_X4_noWide
  rw [e2, b2s]
theorem eq_mean {no : SV} {ss rf re : Nat → Int32} (h : ST no ss) (q : RF rf re) (b : Int32) : ∃ r rf' re', M_X3_mean no rf b = some (r, rf') ∧ M_X4_mean ss re b = some (r, re') ∧ RF rf' re' := by
  obtain ⟨P, T, d, w, hd, hd2, hr⟩ := id h
  have hT := w.2.1
  unfold M_X3_mean M_X4_mean
  rw [isIn_m]
  by_cases hb : b < 0
  · rw [if_pos hb, if_pos hb, b1s, if_pos rfl]
    obtain ⟨rf', re', e1, e2, q'⟩ := refuL q (c := -2) (by decide)
    rw [e1, e2, b2s, b2s]
    exact ⟨_, _, _, rfl, rfl, q'⟩
  rw [if_neg hb, if_neg hb]
  by_cases hb1 : b ≤ 1
  · rw [if_pos hb1, if_neg (Int32.not_lt.mpr hb1), b1s, if_neg (show ¬ (1 : Int32) = 0 by decide)]
    obtain ⟨k, -, hk, rfl⟩ := rng (a := 0) (b := 1) (by omega) (Int32.not_lt.mp hb) hb1 (by omega)
    have hc : cN no T ≤ 9 := pcN_le _
    have hs := swN_le w T (Nat.le_refl _)
    have hm : (if (1 : Int32) < nI (cN no T) then nI (cN no T) else 1) = nI (if 1 < cN no T then cN no T else 1) := by
      rw [show (1 : Int32) = nI 1 from rfl, if_lt (by omega) (by omega)]
      split <;> rfl
    have c2 : fuel (fun _ _ => none) (B_X4_mean_21 (nI k) ss re) FU 0 0 = bnd1 (M_X4_partOf (lN (swN no T)) (lN (cN no T)) (nI k)) fun r83 => some (r83, re) := by
      refine fuelP (fun _ _ => none) (B_X4_mean_21 (nI k) ss re) (fun n f => ∀ i, i ≤ T → T - i < n → f (lN (swN no i)) (nI i) = bnd1 (M_X4_partOf (lN (swN no T)) (lN (cN no T)) (nI k)) fun r83 => some (r83, re)) (fun i _ h => absurd h (Nat.not_lt_zero _)) (fun n f hf i hi hn => ?_) FU 0 (Nat.zero_le _) (by rw [FU_eq]; omega)
      unfold B_X4_mean_21
      rw [hr.th, w.2.2.2.1, if_le (by omega) (by omega)]
      by_cases hh : T ≤ i
      · rw [if_pos hh, show i = T by omega, wholeSet_m hr w, b1s, bitsW_m w, b1s, nI_l (by omega)]
      · obtain ⟨s1, s2⟩ := sw_nI w (show i < T by omega)
        rw [if_neg hh, isWhole_m ss (by omega), hr.br (by omega), b1s, ofT_nI, b1s, ad3, chk_nI (by omega) (by omega), nI_clamp (by omega), hr.we (by omega), ad1, ← hf (i + 1) (by omega) (by omega), l00]
        have e : swN no (i + 1) = swN no i + (if isW no i then (sWe no i).toNatClampNeg else 0) := rfl
        rw [e]
        by_cases hw : isW no i
        · rw [if_pos hw, if_neg (show ¬ (1 : Int32) = 0 by decide), if_pos hw, s1, nI_l (by omega), lA, nI_clamp (by omega)]
        · rw [if_neg hw, if_pos rfl, if_neg hw, lA]
    have hC : cN no T = (if 1 < cN no T then cN no T else 1) ∨ swN no T = 0 := by
      by_cases h0 : cN no T = 0
      · refine Or.inr (swN_0 T ?_)
        rw [← pcS _ T (by omega)]
        exact h0
      · refine Or.inl ?_
        by_cases h1 : 1 < cN no T
        · rw [if_pos h1]
        · rw [if_neg h1]; omega
    obtain ⟨r, a1, a2⟩ := terms_eq (A := swN no T) (B := if 1 < cN no T then cN no T else 1) (C := cN no T) (by omega) (by split <;> omega) (by split <;> omega) hC hk
    rw [wearWh_c w, b1s, wholeCount_c w, b1s, hm, nI_l (by omega), nI_l (by split <;> omega), a1, b1s, c2, a2, b1s]
    exact ⟨_, _, _, rfl, rfl, q⟩
  · rw [if_neg hb1, if_pos (Int32.not_le.mp hb1), b1s, if_pos rfl]
    obtain ⟨rf', re', e1, e2, q'⟩ := refuL q (c := -2) (by decide)
    rw [e1, e2, b2s, b2s]
    exact ⟨_, _, _, rfl, rfl, q'⟩
