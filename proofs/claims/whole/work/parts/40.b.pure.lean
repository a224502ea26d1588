/-! ### sets as bits, and how many -/
theorem if_le {α : Type} {a b : Nat} (ha : a < 2 ^ 31) (hb : b < 2 ^ 31) {inst : Decidable (nI a ≤ nI b)} (X Y : α) : (@ite α (nI a ≤ nI b) inst X Y) = if a ≤ b then X else Y := by
  by_cases h : a ≤ b
  · rw [if_pos h, if_pos ((nI_leI ha hb).mpr h)]
  · rw [if_neg h, if_neg (fun q => h ((nI_leI ha hb).mp q))]
theorem if_lt {α : Type} {a b : Nat} (ha : a < 2 ^ 31) (hb : b < 2 ^ 31) {inst : Decidable (nI a < nI b)} (X Y : α) : (@ite α (nI a < nI b) inst X Y) = if a < b then X else Y := by
  by_cases h : a < b
  · rw [if_pos h, if_pos ((nI_ltI ha hb).mpr h)]
  · rw [if_neg h, if_neg (fun q => h ((nI_ltI ha hb).mp q))]
theorem if_eq {α : Type} {a b : Nat} (ha : a < 2 ^ 31) (hb : b < 2 ^ 31) {inst : Decidable (nI a = nI b)} (X Y : α) : (@ite α (nI a = nI b) inst X Y) = if a = b then X else Y := by
  by_cases h : a = b
  · rw [if_pos h, if_pos ((nI_eq ha hb).mpr h)]
  · rw [if_neg h, if_neg (fun q => h ((nI_eq ha hb).mp q))]
theorem qa_and (a b : Nat) : nI a &&& nI b = nI (a &&& b) := by
  apply Int32.toBitVec_inj.1
  show BitVec.ofNat 32 a &&& BitVec.ofNat 32 b = BitVec.ofNat 32 (a &&& b)
  apply BitVec.eq_of_getLsbD_eq
  intro i hi
  simp [BitVec.getLsbD_and, BitVec.getLsbD_ofNat, Nat.testBit_and, hi]
theorem qa_or (a b : Nat) : nI a ||| nI b = nI (a ||| b) := by
  apply Int32.toBitVec_inj.1
  show BitVec.ofNat 32 a ||| BitVec.ofNat 32 b = BitVec.ofNat 32 (a ||| b)
  apply BitVec.eq_of_getLsbD_eq
  intro i hi
  simp [BitVec.getLsbD_or, BitVec.getLsbD_ofNat, Nat.testBit_or, hi]
theorem sh1 : ∀ t, t < 31 → (1 : Int32) <<< (nI t &&& 31) = nI (2 ^ t) := by decide +kernel
theorem or_pow {a t : Nat} (h : a < 2 ^ t) : nI a ||| nI (2 ^ t) = nI (a + 2 ^ t) := by
  rw [qa_or]
  congr 1
  have := Nat.two_pow_add_eq_or_of_lt h 1
  rw [Nat.mul_one] at this
  rw [Nat.or_comm, ← this, Nat.add_comm]
theorem or_zero (a : Nat) : nI a ||| (0 : Int32) = nI a := by
  rw [show (0 : Int32) = nI 0 from rfl, qa_or, Nat.or_zero]
/-- the set of those below k that p says -/
def bS (p : Nat → Prop) [DecidablePred p] : Nat → Nat
  | 0 => 0
  | t + 1 => bS p t + (if p t then 2 ^ t else 0)
theorem bS_lt (p : Nat → Prop) [DecidablePred p] : ∀ t, bS p t < 2 ^ t
  | 0 => Nat.one_pos
  | t + 1 => by
    have h := bS_lt p t
    unfold bS
    rw [Nat.pow_succ]
    split <;> omega
theorem bS_le (p : Nat → Prop) [DecidablePred p] {t n : Nat} (h : t ≤ n) : bS p t < 2 ^ n := Nat.lt_of_lt_of_le (bS_lt p t) (Nat.pow_le_pow_right (by decide) h)
theorem bS_bit (p : Nat → Prop) [DecidablePred p] : ∀ (n t : Nat), (bS p n).testBit t = (decide (t < n) && decide (p t))
  | 0, t => by simp [bS]
  | n + 1, t => by
    have ih := bS_bit p n t
    have hl := bS_lt p n
    unfold bS
    by_cases hp : p n
    · rw [if_pos hp, Nat.add_comm]
      have e := Nat.two_pow_add_eq_or_of_lt hl 1
      rw [Nat.mul_one] at e
      rw [e, Nat.testBit_or, ih, Nat.testBit_two_pow]
      by_cases h1 : n = t
      · subst h1; simp [hp]
      · have : (t < n + 1) = (t < n) := by apply propext; omega
        simp [h1, this]
    · rw [if_neg hp, Nat.add_zero, ih]
      by_cases h1 : t = n
      · subst h1; simp [hp]
      · have : (t < n + 1) = (t < n) := by apply propext; omega
        simp [this]
theorem bS_step (p : Nat → Prop) [DecidablePred p] {t : Nat} (ht : t < 31) : (if p t then nI (bS p t) ||| ((1 : Int32) <<< (nI t &&& 31)) else nI (bS p t)) = nI (bS p (t + 1)) := by
  show _ = nI (bS p t + (if p t then 2 ^ t else 0))
  by_cases h : p t
  · rw [if_pos h, if_pos h, sh1 t ht, or_pow (bS_lt p t)]
  · rw [if_neg h, if_neg h, Nat.add_zero]
def pcN (n : Nat) : Nat := n % 2 + n / 2 % 2 + n / 4 % 2 + n / 8 % 2 + n / 16 % 2 + n / 32 % 2 + n / 64 % 2 + n / 128 % 2 + n / 256 % 2
theorem pcN_le (n : Nat) : pcN n ≤ 9 := by unfold pcN; omega
theorem bitCount_c : ∀ n, n < 512 → M_J6_bitCount_0f7a4 (nI n) = some (nI (pcN n)) := by decide +kernel
theorem bits_m : ∀ n, n < 512 → M_X4_bits (nI n) = some (nI (pcN n)) := by decide +kernel
abbrev isW (v : SV) (t : Nat) : Prop := sBr v t = -9
def wN (v : SV) (T : Nat) : Nat := bS (isW v) T
theorem wholeBits_c {v : SV} {P T : Nat} (w : WF v P T) : M_X2_wholeBits v = some (nI (wN v T)) := by
  have hT := w.2.1
  have eT := w.2.2.2.1
  unfold M_X2_wholeBits
  refine fuelP (fun _ _ => none) (B_X2_wholeBits_4 v) (fun k f => ∀ i, i ≤ T → T - i < k → f (nI (bS (isW v) i)) (nI i) = some (nI (wN v T))) (fun i _ h => absurd h (Nat.not_lt_zero _)) (fun k f hf i hi hk => ?_) FU 0 (Nat.zero_le _) (by rw [FU_eq]; omega)
  unfold B_X2_wholeBits_4
  rw [eT, if_le (by omega) (by omega)]
  by_cases h : T ≤ i
  · rw [if_pos h, show i = T by omega]; rfl
  · rw [if_neg h, isWhole_c v (by omega), b1s]
    rw [← hf (i + 1) (by omega) (by omega), ← bS_step (isW v) (show i < 31 by omega), ad1]
    by_cases hw : isW v i
    · rw [if_pos hw, if_pos hw, if_neg (by decide)]
    · rw [if_neg hw, if_neg hw, if_pos rfl, or_zero]
theorem wholeSet_m {v : SV} {i : Int32} {r : Nat → Int32} (h : RR v i r) {P T : Nat} (w : WF v P T) : M_X4_wholeSet r = some (nI (wN v T)) := by
  have hT := w.2.1
  have eT := w.2.2.2.1
  unfold M_X4_wholeSet
  refine fuelP (fun _ _ => none) (B_X4_wholeSet_4 r) (fun k f => ∀ i, i ≤ T → T - i < k → f (nI (bS (isW v) i)) (nI i) = some (nI (wN v T))) (fun i _ h => absurd h (Nat.not_lt_zero _)) (fun k f hf i hi hk => ?_) FU 0 (Nat.zero_le _) (by rw [FU_eq]; omega)
  unfold B_X4_wholeSet_4
  rw [h.th, eT, if_le (by omega) (by omega)]
  by_cases hh : T ≤ i
  · rw [if_pos hh, show i = T by omega]; rfl
  · rw [if_neg hh, isWhole_m r (by omega), b1s, h.br (by omega)]
    rw [← hf (i + 1) (by omega) (by omega), ← bS_step (isW v) (show i < 31 by omega), ad1]
    by_cases hw : isW v i
    · rw [if_pos hw, if_pos hw, if_neg (by decide)]
    · rw [if_neg hw, if_neg hw, if_pos rfl, or_zero]
theorem wN_lt {v : SV} {P T : Nat} (w : WF v P T) : wN v T < 512 := Nat.lt_of_lt_of_le (bS_lt _ T) (by
  have := w.2.1
  exact Nat.le_trans (Nat.pow_le_pow_right (by decide) this) (by decide))
def cN (v : SV) (T : Nat) : Nat := pcN (wN v T)
theorem wholeCount_c {v : SV} {P T : Nat} (w : WF v P T) : M_X2_wholeCount v = some (nI (cN v T)) := by
  unfold M_X2_wholeCount
  rw [wholeBits_c w, b1s, bitCount_c _ (wN_lt w), b1s]
  rfl
theorem bitsW_m {v : SV} {P T : Nat} (w : WF v P T) : M_X4_bits (nI (wN v T)) = some (nI (cN v T)) := bits_m _ (wN_lt w)
/-- sums over people and things -/
def sumF (f : Nat → Int32) : Nat → Int32
  | 0 => 0
  | n + 1 => sumF f n + f n
theorem mendedAll_c {v : SV} {P T : Nat} (w : WF v P T) : M_X2_mendedByAll v = some (sumF (sMe v) P) := by
  have hP := w.1
  have eP := w.2.2.1
  unfold M_X2_mendedByAll
  refine fuelP (fun _ _ => none) (B_X2_mendedByAll_4 v) (fun k f => ∀ i, i ≤ P → P - i < k → f (sumF (sMe v) i) (nI i) = some (sumF (sMe v) P)) (fun i _ h => absurd h (Nat.not_lt_zero _)) (fun k f hf i hi hk => ?_) FU 0 (Nat.zero_le _) (by rw [FU_eq]; omega)
  unfold B_X2_mendedByAll_4
  rw [eP, if_le (by omega) (by omega)]
  by_cases h : P ≤ i
  · rw [if_pos h, show i = P by omega]
  · rw [if_neg h, chk_nI (by omega) (by omega), nI_clamp (by omega), ad1]
    exact hf (i + 1) (by omega) (by omega)
theorem mendedAll_m {v : SV} {i : Int32} {r : Nat → Int32} (h : RR v i r) {P T : Nat} (w : WF v P T) : M_X4_mendedAll r = some (sumF (sMe v) P) := by
  have hP := w.1
  have eP := w.2.2.1
  unfold M_X4_mendedAll
  refine fuelP (fun _ _ => none) (B_X4_mendedAll_4 r) (fun k f => ∀ i, i ≤ P → P - i < k → f (sumF (sMe v) i) (nI i) = some (sumF (sMe v) P)) (fun i _ h => absurd h (Nat.not_lt_zero _)) (fun k f hf i hi hk => ?_) FU 0 (Nat.zero_le _) (by rw [FU_eq]; omega)
  unfold B_X4_mendedAll_4
  rw [h.pe, eP, if_le (by omega) (by omega)]
  by_cases hh : P ≤ i
  · rw [if_pos hh, show i = P by omega]
  · rw [if_neg hh, ofP_nI, b1s, ad1, chk_nI (by omega) (by omega), nI_clamp (by omega), h.me (by omega), ad1]
    exact hf (i + 1) (by omega) (by omega)
/-! ### a day -/
/-- by how much more, of a kind, of a figure, on a day -/
def mrN (k : Int32) (f d : Nat) : Nat := if k = 1 then 0 else if k = 2 then (if d % 2 = 0 then 1 else 0) + 1 else if k = 3 then (if d % 2 = 0 then 1 else 0) + 2 else if k = 4 then (if d % 2 = 0 then 1 else 0) + f / 4 else if k = 5 then ((if d % 2 = 0 then 1 else 0) + 2) / 2 else (if d % 2 = 0 then 1 else 0)
theorem mrN_le {k : Int32} {f d : Nat} (hf : f ≤ 9) : mrN k f d ≤ 3 := by
  unfold mrN
  by_cases h : d % 2 = 0
  · simp only [h, if_true]
    repeat' split
    all_goals omega
  · simp only [if_neg h]
    repeat' split
    all_goals omega
theorem odd_nI {d : Nat} (hd : d < 2 ^ 31) : nI d - nI d / (2 : Int32) * (2 : Int32) = nI (d % 2) := by
  rw [show (2 : Int32) = nI 2 from rfl, pk_rem hd (by decide) (by decide)]
theorem div4 {f : Nat} (hf : f < 2 ^ 31) : nI f / (4 : Int32) = nI (f / 4) := by
  rw [show (4 : Int32) = nI 4 from rfl, pk_div hf (by decide) (by decide)]
theorem more_c {v : SV} {t f d : Nat} (ht : t < 9) (hf : f ≤ 9) (ef : sFi v t = nI f) (hd : d < 2 ^ 31) : M_X2_moreWearOf v (nI t) (nI d) = some (nI (mrN (sKi v t) f d)) := by
  unfold M_X2_moreWearOf mrN
  rw [odd_nI hd]
  simp only [chk_nI ht (show (9 : Nat) < 2 ^ 31 by decide), nI_clamp (show t < 2 ^ 31 by omega), ef, div4 (show f < 2 ^ 31 by omega)]
  rcases Nat.mod_two_eq_zero_or_one d with e | e
  · rw [e, if_pos (show nI 0 = 0 from rfl), if_pos (show (0 : Nat) = 0 from rfl)]
    by_cases h1 : sKi v t = 1
    · rw [if_pos h1, if_pos h1]; rfl
    · rw [if_neg h1, if_neg h1]
      by_cases h2 : sKi v t = 2
      · rw [if_pos h2, if_pos h2]; rfl
      · rw [if_neg h2, if_neg h2]
        by_cases h3 : sKi v t = 3
        · rw [if_pos h3, if_pos h3]; rfl
        · rw [if_neg h3, if_neg h3]
          by_cases h4 : sKi v t = 4
          · rw [if_pos h4, if_pos h4, show (1 : Int32) = nI 1 from rfl, nI_add]
          · rw [if_neg h4, if_neg h4]
            by_cases h5 : sKi v t = 5
            · rw [if_pos h5, if_pos h5]; rfl
            · rw [if_neg h5, if_neg h5]; rfl
  · rw [e, if_neg (show ¬ nI 1 = 0 by decide), if_neg (show ¬ ((1 : Nat) = 0) by decide)]
    by_cases h1 : sKi v t = 1
    · rw [if_pos h1, if_pos h1]; rfl
    · rw [if_neg h1, if_neg h1]
      by_cases h2 : sKi v t = 2
      · rw [if_pos h2, if_pos h2]; rfl
      · rw [if_neg h2, if_neg h2]
        by_cases h3 : sKi v t = 3
        · rw [if_pos h3, if_pos h3]; rfl
        · rw [if_neg h3, if_neg h3]
          by_cases h4 : sKi v t = 4
          · rw [if_pos h4, if_pos h4, show (0 : Int32) = nI 0 from rfl, nI_add]
          · rw [if_neg h4, if_neg h4]
            by_cases h5 : sKi v t = 5
            · rw [if_pos h5, if_pos h5]; rfl
            · rw [if_neg h5, if_neg h5]; rfl
theorem more_m {k : Int32} {f d : Nat} (hf : f ≤ 9) (hd : d < 2 ^ 31) : M_X4_wearBy k (nI f) (nI d) = some (nI (mrN k f d)) := by
  unfold M_X4_wearBy mrN
  rw [odd_nI hd, div4 (show f < 2 ^ 31 by omega)]
  rcases Nat.mod_two_eq_zero_or_one d with e | e
  · rw [e, if_pos (show (0 : Nat) = 0 from rfl)]
    by_cases h1 : k = 1
    · rw [if_pos h1, if_pos h1]; rfl
    · rw [if_neg h1, if_neg h1]
      by_cases h2 : k = 2
      · rw [if_pos h2, if_pos h2]; rfl
      · rw [if_neg h2, if_neg h2]
        by_cases h3 : k = 3
        · rw [if_pos h3, if_pos h3]; rfl
        · rw [if_neg h3, if_neg h3]
          by_cases h4 : k = 4
          · rw [if_pos h4, if_pos h4, show (1 : Int32) - nI 0 = nI 1 from rfl, nI_add]
          · rw [if_neg h4, if_neg h4]
            by_cases h5 : k = 5
            · rw [if_pos h5, if_pos h5]; rfl
            · rw [if_neg h5, if_neg h5]; rfl
  · rw [e, if_neg (show ¬ ((1 : Nat) = 0) by decide)]
    by_cases h1 : k = 1
    · rw [if_pos h1, if_pos h1]; rfl
    · rw [if_neg h1, if_neg h1]
      by_cases h2 : k = 2
      · rw [if_pos h2, if_pos h2]; rfl
      · rw [if_neg h2, if_neg h2]
        by_cases h3 : k = 3
        · rw [if_pos h3, if_pos h3]; rfl
        · rw [if_neg h3, if_neg h3]
          by_cases h4 : k = 4
          · rw [if_pos h4, if_pos h4, show (1 : Int32) - nI 1 = nI 0 from rfl, nI_add]
          · rw [if_neg h4, if_neg h4]
            by_cases h5 : k = 5
            · rw [if_pos h5, if_pos h5]; rfl
            · rw [if_neg h5, if_neg h5]; rfl
