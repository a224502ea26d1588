/-! ### confessions -/
def ocP (v : SV) (P s t : Nat) : Option Nat := fnd (fun p => s.testBit p = true ∧ ¬ bS (fun k => abS v t k ∧ k ≠ p) P = 0) P 0
def lnP (v : SV) (P T s : Nat) : Option Nat := fnd (fun t => sBr v t = -8 ∧ ocP v P s t = none) T 0
theorem couldSay_c {v : SV} {P T : Nat} (w : WF v P T) {s t : Nat} (hs : s < 64) (ht : t < T) : M_X3_oneCouldSay v (nI s) (nI t) = some (match ocP v P s t with | none => 0 | some _ => 1) := by
  have hP := w.1
  have e : M_X3_oneCouldSay v (nI s) (nI t) = (match ocP v P s t with | none => some 0 | some _ => some 1) := by
    unfold M_X3_oneCouldSay ocP
    rw [ableBits_c w ht, b1s]
    refine findL (fun _ => none) (B_X3_oneCouldSay_12 (nI s) (nI (bS (abS v t) P)) v) _ P (some 0) (fun _ => some 1) (by omega) (fun f => ?_) (fun f i hi => ?_)
    · unfold B_X3_oneCouldSay_12
      rw [w.2.2.1, if_pos (Int32.le_refl _)]
    · unfold B_X3_oneCouldSay_12
      have hb := bS_le (fun k => abS v t k ∧ k ≠ i) (show P ≤ 9 by omega)
      rw [w.2.2.1, if_le (by omega) (by omega), if_neg (show ¬ P ≤ i by omega), clrS _ hP (by omega), if_e0 (by omega), ad1]
      by_cases h1 : s.testBit i = true
      · rw [if_neg (fun x => by rw [(bt0 s hs i (by omega)).mp x] at h1; exact absurd h1 (by decide))]
        by_cases h2 : bS (fun k => abS v t k ∧ k ≠ i) P = 0
        · rw [if_pos h2, if_neg (fun q => q.2 h2)]
        · rw [if_neg h2, if_pos ⟨h1, h2⟩]
      · rw [if_pos ((bt0 s hs i (by omega)).mpr (by simpa using h1)), if_neg (fun q => h1 q.1)]
  rw [e]
  cases ocP v P s t <;> rfl
theorem canSay_m {v : SV} {i : Int32} {r : Nat → Int32} (h : RR v i r) {P T : Nat} (w : WF v P T) {s t : Nat} (hs : s < 64) (ht : t < T) : M_X4_canSay r (nI s) (nI t) = some (match ocP v P s t with | none => 0 | some _ => 1) := by
  have hP := w.1
  have e : M_X4_canSay r (nI s) (nI t) = (match ocP v P s t with | none => some 0 | some _ => some 1) := by
    unfold M_X4_canSay ocP
    refine findL (fun _ => none) (B_X4_canSay_2 (nI s) (nI t) r) _ P (some 0) (fun _ => some 1) (by omega) (fun f => ?_) (fun f i hi => ?_)
    · unfold B_X4_canSay_2
      rw [h.pe, w.2.2.1, if_pos (Int32.le_refl _)]
    · unfold B_X4_canSay_2
      have hb := bS_le (fun k => abS v t k ∧ k ≠ i) (show P ≤ 9 by omega)
      rw [h.pe, w.2.2.1, if_le (by omega) (by omega), if_neg (show ¬ P ≤ i by omega), has_m s hs i (by omega), b1s, mendersOf_m h w ht, b1s, clrS _ hP (by omega), if_e0 (by omega), ad1]
      by_cases h1 : s.testBit i = true
      · rw [if_pos h1, if_neg (show ¬ (1 : Int32) = 0 by decide)]
        by_cases h2 : bS (fun k => abS v t k ∧ k ≠ i) P = 0
        · rw [if_pos h2, if_neg (fun q => q.2 h2)]
        · rw [if_neg h2, if_pos ⟨h1, h2⟩]
      · rw [if_neg h1, if_pos rfl, if_neg (fun q => h1 q.1)]
  rw [e]
  cases ocP v P s t <;> rfl
theorem leave_c {v : SV} {P T : Nat} (w : WF v P T) {s : Nat} (hs : s < 64) : M_X3_leaveNothing v (nI s) = some (match lnP v P T s with | none => 1 | some _ => 0) := by
  have hT := w.2.1
  have e : M_X3_leaveNothing v (nI s) = (match lnP v P T s with | none => some 1 | some _ => some 0) := by
    unfold M_X3_leaveNothing lnP
    refine findL (fun _ => none) (B_X3_leaveNothing_2 (nI s) v) _ T (some 1) (fun _ => some 0) (by omega) (fun f => ?_) (fun f i hi => ?_)
    · unfold B_X3_leaveNothing_2
      rw [w.2.2.2.1, if_pos (Int32.le_refl _)]
    · unfold B_X3_leaveNothing_2
      rw [w.2.2.2.1, if_le (by omega) (by omega), if_neg (show ¬ T ≤ i by omega), isMourned_c v (by omega), b1s, couldSay_c w hs hi, b1s, ad1]
      by_cases h1 : sBr v i = -8
      · rw [if_pos h1, if_neg (show ¬ (1 : Int32) = 0 by decide)]
        cases h2 : ocP v P s i with
        | none =>
          dsimp only
          rw [if_pos rfl, if_pos ⟨h1, rfl⟩]
        | some k =>
          dsimp only
          rw [if_neg (show ¬ (1 : Int32) = 0 by decide), if_neg (fun q => by cases q.2)]
      · rw [if_neg h1, if_pos rfl, if_neg (fun q => h1 q.1)]
  rw [e]
  cases lnP v P T s <;> rfl
theorem leave_m {v : SV} {i : Int32} {r : Nat → Int32} (h : RR v i r) {P T : Nat} (w : WF v P T) {s : Nat} (hs : s < 64) (x1 : Int32) (K : Int32 → Option Int32) : fuel (fun _ _ => none) (B_X4_confessions_41 x1 (nI s) r K) FU 1 0 = K (match lnP v P T s with | none => 1 | some _ => 0) ∧ fuel (fun _ _ => none) (B_X4_confessions_41 x1 (nI s) r K) FU 0 0 = K 0 := by
  have hT := w.2.1
  have key := fuelP (fun _ _ => none) (B_X4_confessions_41 x1 (nI s) r K) (fun n f => (∀ i, i ≤ T → 0 < n → f 0 (nI i) = K 0) ∧ ∀ i, i ≤ T → T - i + 1 < n → f 1 (nI i) = K (match fnd (fun t => sBr v t = -8 ∧ ocP v P s t = none) (T - i) i with | none => 1 | some _ => 0)) ⟨fun i _ h => absurd h (Nat.not_lt_zero _), fun i _ h => absurd h (Nat.not_lt_zero _)⟩ (fun n f hf => ⟨fun i hi hn => by
    unfold B_X4_confessions_41
    rw [if_pos rfl, ite_self], fun i hi hn => by
    unfold B_X4_confessions_41
    rw [h.th, w.2.2.2.1, if_le (by omega) (by omega)]
    by_cases hh : T ≤ i
    · rw [if_pos hh, show T - i = 0 by omega]; rfl
    · rw [if_neg hh, if_neg (show ¬ (1 : Int32) = 0 by decide), ofT_nI, b1s, ad4, chk_nI (by omega) (by omega), nI_clamp (by omega), h.br (by omega), canSay_m h w hs (by omega), b1s, ad1, show T - i = (T - (i + 1)) + 1 by omega]
      unfold fnd
      by_cases h1 : sBr v i = -8
      · rw [if_pos h1]
        cases h2 : ocP v P s i with
        | none =>
          dsimp only
          rw [if_pos rfl, if_pos ⟨h1, rfl⟩]
          exact hf.1 (i + 1) (by omega) (by omega)
        | some k =>
          dsimp only
          rw [if_neg (show ¬ (1 : Int32) = 0 by decide), if_neg (fun q => by cases q.2)]
          exact hf.2 (i + 1) (by omega) (by omega)
      · rw [if_neg h1, if_neg (fun q => h1 q.1)]
        exact hf.2 (i + 1) (by omega) (by omega)⟩) FU
  exact ⟨key.2 0 (Nat.zero_le _) (by rw [FU_eq]; omega), key.1 0 (Nat.zero_le _) (by rw [FU_eq]; omega)⟩
theorem eq_confessions {no : SV} {ss : Nat → Int32} (h : ST no ss) : ∃ r, M_X3_confessions no = some r ∧ M_X4_confessions ss = some r := by
  obtain ⟨P, T, d, w, hd, hd2, hr⟩ := id h
  have hP := w.1
  have hT := w.2.1
  have h64 : 2 ^ P ≤ 64 := Nat.le_trans (Nat.pow_le_pow_right (by decide) hP) (by decide)
  unfold M_X3_confessions M_X4_confessions
  have key := fuelP2 (fun _ _ _ => none) (B_X3_confessions_8 no) (fun _ _ => none) (B_X4_confessions_5 ss) (fun n f g => ∀ (i : Nat) (x y : Int32), i ≤ 2 ^ P → 2 ^ P - i < n → ((x = -9 ∧ y = 7) ∨ ∃ c : Nat, c < 64 ∧ x = nI c ∧ y = nI (pcN c)) → ∃ o, f x y (nI i) = some o ∧ g x (nI i) = some o) (fun i x y _ h => absurd h (Nat.not_lt_zero _)) (fun n f g hf i x y hi hn hxy => by
    unfold B_X3_confessions_8 B_X4_confessions_5
    rw [hr.pe, w.2.2.1, sh1 P (by omega), if_le (by omega) (by omega), if_le (by omega) (by omega)]
    by_cases hh : 2 ^ P ≤ i
    · rw [if_pos hh, if_pos hh]; exact ⟨x, rfl, rfl⟩
    · have hi64 : i < 64 := by omega
      have hpc := pcN_le i
      rw [if_neg hh, if_neg hh, bitCount_c i (by omega), b1s, bits_m i (by omega), b1s, leave_c w hi64, b1s, ad1]
      obtain ⟨a1, a2⟩ := leave_m hr w hi64 x (fun x3 => if x3 = 0 then g x (nI (i + 1)) else g (nI i) (nI (i + 1)))
      rw [a1, a2]
      have take : ∃ o, (if (match lnP no P T i with | none => (1 : Int32) | some _ => 0) = 0 then f x y (nI (i + 1)) else f (nI i) (nI (pcN i)) (nI (i + 1))) = some o ∧ (if (match lnP no P T i with | none => (1 : Int32) | some _ => 0) = 0 then g x (nI (i + 1)) else g (nI i) (nI (i + 1))) = some o := by
        cases lnP no P T i with
        | none =>
          dsimp only
          rw [if_neg (show ¬ (1 : Int32) = 0 by decide), if_neg (show ¬ (1 : Int32) = 0 by decide)]
          exact hf (i + 1) _ _ (by omega) (by omega) (Or.inr ⟨i, hi64, rfl, rfl⟩)
        | some k =>
          dsimp only
          rw [if_pos rfl, if_pos rfl]
          exact hf (i + 1) _ _ (by omega) (by omega) hxy
      rcases hxy with ⟨rfl, rfl⟩ | ⟨c, hc, rfl, rfl⟩
      · have h6 : pcN i < 7 := Classical.byContradiction (fun q => by unfold pcN at q; omega)
        rw [show (7 : Int32) = nI 7 from rfl] at take ⊢
        rw [if_le (by omega) (by omega), if_neg (show ¬ 7 ≤ pcN i by omega), if_pos (show (-9 : Int32) < 0 by decide)]
        exact take
      · have hpc2 := pcN_le c
        rw [if_le (by omega) (by omega), if_neg (nI_pos (show c < 2 ^ 31 by omega)), bits_m c (by omega), b1s, if_le (by omega) (by omega)]
        by_cases hv : pcN c ≤ pcN i
        · rw [if_pos hv, if_pos hv]
          exact hf (i + 1) _ _ (by omega) (by omega) (Or.inr ⟨c, hc, rfl, rfl⟩)
        · rw [if_neg hv, if_neg hv]
          exact take) FU
  exact key 0 (-9) 7 (Nat.zero_le _) (by rw [FU_eq]; omega) (Or.inl ⟨rfl, rfl⟩)
