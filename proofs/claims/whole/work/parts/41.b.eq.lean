/-! ### loops of one kind -/
theorem sumL {γ : Type} (z : Int32 → Int32 → Option γ) (F : (Int32 → Int32 → Option γ) → Int32 → Int32 → Option γ) (g : Nat → Int32) (N : Nat) (E : Int32 → Option γ) (hN : N ≤ 100)
    (hx : ∀ f acc, F f acc (nI N) = E acc) (hs : ∀ f acc i, i < N → F f acc (nI i) = f (acc + g i) (nI (i + 1))) : fuel z F FU 0 0 = E (sumF g N) := by
  refine fuelP z F (fun k f => ∀ i, i ≤ N → N - i < k → f (sumF g i) (nI i) = E (sumF g N)) (fun i _ h => absurd h (Nat.not_lt_zero _)) (fun k f hf i hi hk => ?_) FU 0 (Nat.zero_le _) (by rw [FU_eq]; omega)
  by_cases h : i = N
  · subst h; exact hx f _
  · rw [hs f _ i (by omega)]
    exact hf (i + 1) (by omega) (by omega)
theorem bitL {γ : Type} (z : Int32 → Int32 → Option γ) (F : (Int32 → Int32 → Option γ) → Int32 → Int32 → Option γ) (p : Nat → Prop) [DecidablePred p] (N : Nat) (E : Int32 → Option γ) (hN : N ≤ 30)
    (hx : ∀ f acc, F f acc (nI N) = E acc) (hs : ∀ f acc i, i < N → F f (nI acc) (nI i) = if p i then f (nI acc ||| ((1 : Int32) <<< (nI i &&& 31))) (nI (i + 1)) else f (nI acc) (nI (i + 1))) : fuel z F FU 0 0 = E (nI (bS p N)) := by
  refine fuelP z F (fun k f => ∀ i, i ≤ N → N - i < k → f (nI (bS p i)) (nI i) = E (nI (bS p N))) (fun i _ h => absurd h (Nat.not_lt_zero _)) (fun k f hf i hi hk => ?_) FU 0 (Nat.zero_le _) (by rw [FU_eq]; omega)
  by_cases h : i = N
  · subst h; exact hx f _
  · rw [hs f _ i (by omega), ← hf (i + 1) (by omega) (by omega), ← bS_step p (show i < 31 by omega)]
    by_cases hp : p i
    · rw [if_pos hp, if_pos hp]
    · rw [if_neg hp, if_neg hp]
/-- the first of k from i on -/
def fnd (p : Nat → Prop) [DecidablePred p] : Nat → Nat → Option Nat
  | 0, _ => none
  | k + 1, i => if p i then some i else fnd p k (i + 1)
theorem fnd_some {p : Nat → Prop} [DecidablePred p] : ∀ {k i t : Nat}, fnd p k i = some t → i ≤ t ∧ t < i + k ∧ p t ∧ ∀ j, i ≤ j → j < t → ¬ p j
  | 0, _, _, h => by cases h
  | k + 1, i, t, h => by
    unfold fnd at h
    by_cases hp : p i
    · rw [if_pos hp] at h
      cases h
      exact ⟨Nat.le_refl _, by omega, hp, fun j h1 h2 => absurd h2 (by omega)⟩
    · rw [if_neg hp] at h
      obtain ⟨a, b, c, e⟩ := fnd_some h
      refine ⟨by omega, by omega, c, fun j h1 h2 => ?_⟩
      by_cases hj : j = i
      · subst hj; exact hp
      · exact e j (by omega) h2
theorem fnd_none {p : Nat → Prop} [DecidablePred p] : ∀ {k i : Nat}, fnd p k i = none → ∀ j, i ≤ j → j < i + k → ¬ p j
  | 0, _, _, j, h1, h2 => absurd h2 (by omega)
  | k + 1, i, h, j, h1, h2 => by
    unfold fnd at h
    by_cases hp : p i
    · rw [if_pos hp] at h; cases h
    · rw [if_neg hp] at h
      by_cases hj : j = i
      · subst hj; exact hp
      · exact fnd_none h j (by omega) (by omega)
theorem findL {γ : Type} (z : Int32 → Option γ) (F : (Int32 → Option γ) → Int32 → Option γ) (p : Nat → Prop) [DecidablePred p] (N : Nat) (E : Option γ) (R : Nat → Option γ) (hN : N ≤ 100)
    (hx : ∀ f, F f (nI N) = E) (hs : ∀ f i, i < N → F f (nI i) = if p i then R i else f (nI (i + 1))) : fuel z F FU 0 = (match fnd p N 0 with | none => E | some t => R t) := by
  refine fuelP z F (fun k f => ∀ i, i ≤ N → N - i < k → f (nI i) = (match fnd p (N - i) i with | none => E | some t => R t)) (fun i _ h => absurd h (Nat.not_lt_zero _)) (fun k f hf i hi hk => ?_) FU 0 (Nat.zero_le _) (by rw [FU_eq]; omega)
  by_cases h : i = N
  · subst h
    rw [Nat.sub_self]
    exact hx f
  · rw [hs f i (by omega), show N - i = (N - (i + 1)) + 1 by omega]
    unfold fnd
    by_cases hp : p i
    · rw [if_pos hp, if_pos hp]
    · rw [if_neg hp, if_neg hp]
      exact hf (i + 1) (by omega) (by omega)
/-- how many -/
def kS (p : Nat → Prop) [DecidablePred p] : Nat → Nat
  | 0 => 0
  | t + 1 => kS p t + (if p t then 1 else 0)
theorem pc_add : ∀ t, t < 9 → ∀ a, a < 2 ^ t → pcN (a + 2 ^ t) = pcN a + 1 := by decide +kernel
theorem pcS (p : Nat → Prop) [DecidablePred p] : ∀ n, n ≤ 9 → pcN (bS p n) = kS p n
  | 0, _ => by show pcN 0 = 0; decide
  | n + 1, h => by
    have ih := pcS p n (by omega)
    unfold bS kS
    by_cases hp : p n
    · rw [if_pos hp, if_pos hp, pc_add n (by omega) _ (bS_lt p n), ih]
    · rw [if_neg hp, if_neg hp]; exact ih
theorem sumF_cS (p : Nat → Prop) [DecidablePred p] : ∀ n, sumF (fun t => if p t then 1 else 0) n = nI (kS p n)
  | 0 => rfl
  | n + 1 => by
    unfold sumF kS
    rw [sumF_cS p n]
    by_cases hp : p n
    · rw [if_pos hp, if_pos hp, ad1]
    · rw [if_neg hp, if_neg hp, ad0]; rfl
theorem kS_le (p : Nat → Prop) [DecidablePred p] : ∀ n, kS p n ≤ n
  | 0 => Nat.le_refl _
  | n + 1 => by
    have := kS_le p n
    unfold kS
    split <;> omega
theorem kS_cong {p q : Nat → Prop} [DecidablePred p] [DecidablePred q] : ∀ n, (∀ t, t < n → (p t ↔ q t)) → kS p n = kS q n
  | 0, _ => rfl
  | n + 1, h => by
    unfold kS
    rw [kS_cong n (fun t ht => h t (by omega))]
    have := h n (by omega)
    by_cases hp : p n
    · rw [if_pos hp, if_pos (this.mp hp)]
    · rw [if_neg hp, if_neg (fun x => hp (this.mpr x))]
theorem bS_cong {p q : Nat → Prop} [DecidablePred p] [DecidablePred q] : ∀ n, (∀ t, t < n → (p t ↔ q t)) → bS p n = bS q n
  | 0, _ => rfl
  | n + 1, h => by
    unfold bS
    rw [bS_cong n (fun t ht => h t (by omega))]
    have := h n (by omega)
    by_cases hp : p n
    · rw [if_pos hp, if_pos (this.mp hp)]
    · rw [if_neg hp, if_neg (fun x => hp (this.mpr x))]
theorem bS_none {p : Nat → Prop} [DecidablePred p] : ∀ n, bS p n = 0 ↔ ∀ t, t < n → ¬ p t
  | 0 => ⟨fun _ t h => absurd h (Nat.not_lt_zero _), fun _ => rfl⟩
  | n + 1 => by
    have ih := bS_none (p := p) n
    have hpos : 0 < 2 ^ n := Nat.two_pow_pos n
    unfold bS
    constructor
    · intro h t ht
      by_cases hp : p n
      · rw [if_pos hp] at h; omega
      · rw [if_neg hp] at h
        by_cases e : t = n
        · subst e; exact hp
        · exact ih.mp (by omega) t (by omega)
    · intro h
      rw [if_neg (h n (by omega)), ih.mpr (fun t ht => h t (by omega))]
theorem clr : ∀ a, a < 64 → ∀ p, p < 6 → (nI a &&& (((1 : Int32) <<< (nI p &&& 31)) ^^^ (-1))) = nI (a &&& (63 - 2 ^ p)) := by decide +kernel
theorem m63 : ∀ p, p < 6 → ∀ k, k < 6 → (63 - 2 ^ p).testBit k = decide (k ≠ p) := by decide +kernel
theorem clrS (q : Nat → Prop) [DecidablePred q] {P p : Nat} (hP : P ≤ 6) (hp : p < 6) : (nI (bS q P) &&& (((1 : Int32) <<< (nI p &&& 31)) ^^^ (-1))) = nI (bS (fun k => q k ∧ k ≠ p) P) := by
  rw [clr _ (Nat.lt_of_lt_of_le (bS_le q hP) (by decide)) p hp]
  congr 1
  apply Nat.eq_of_testBit_eq
  intro k
  rw [Nat.testBit_and, bS_bit, bS_bit]
  by_cases hk : k < P
  · rw [m63 p hp k (by omega)]
    simp [hk]
  · simp [hk]
/-! ### ableBits, mendersNow, mendersOf -/
abbrev abS (v : SV) (t p : Nat) : Prop := ¬ sSk v p < hS v t
theorem ableBits_c {v : SV} {P T : Nat} (w : WF v P T) {t : Nat} (ht : t < T) : M_X2_ableBits v (nI t) = some (nI (bS (abS v t) P)) := by
  have hP := w.1
  unfold M_X2_ableBits
  rw [hard_c w ht, b1s]
  refine bitL (fun _ _ => none) (B_X2_ableBits_11 (hS v t) v) (abS v t) P some (by omega) (fun f acc => ?_) (fun f acc i hi => ?_)
  · unfold B_X2_ableBits_11
    rw [w.2.2.1, if_pos (Int32.le_refl _)]
  · unfold B_X2_ableBits_11
    rw [w.2.2.1, if_le (by omega) (by omega), if_neg (by omega), chk_nI (by omega) (by omega), nI_clamp (by omega), ad1]
    by_cases h : sSk v i < hS v t
    · rw [if_pos h, if_neg (fun q : abS v t i => q h)]
    · rw [if_neg h, if_pos h]
theorem mendersOf_m {v : SV} {i : Int32} {r : Nat → Int32} (h : RR v i r) {P T : Nat} (w : WF v P T) {t : Nat} (ht : t < T) : M_X4_mendersOf r (nI t) = some (nI (bS (abS v t) P)) := by
  have hP := w.1
  unfold M_X4_mendersOf
  refine bitL (fun _ _ => none) (B_X4_mendersOf_4 (nI t) r) (abS v t) P some (by omega) (fun f acc => ?_) (fun f acc i hi => ?_)
  · unfold B_X4_mendersOf_4
    rw [h.pe, w.2.2.1, if_pos (Int32.le_refl _)]
  · unfold B_X4_mendersOf_4
    rw [h.pe, w.2.2.1, if_le (by omega) (by omega), if_neg (by omega), able_m h w hi ht, b1s, or_zero, ad1]
    by_cases h : sSk v i < hS v t
    · rw [if_pos h, if_pos rfl, if_neg (fun q : abS v t i => q h)]
    · rw [if_neg h, if_neg (show ¬ (1 : Int32) = 0 by decide), if_pos h]
theorem mendersNow_c {v : SV} {P T : Nat} (w : WF v P T) {t : Nat} (ht : t < T) : M_X2_mendersNow v (nI t) = some (nI (kS (fun p => mmS v p t) P)) := by
  have hP := w.1
  unfold M_X2_mendersNow
  rw [← sumF_cS]
  refine sumL (fun _ _ => none) (B_X2_mendersNow_4 (nI t) v) (fun p => if mmS v p t then 1 else 0) P some (by omega) (fun f acc => ?_) (fun f acc i hi => ?_)
  · unfold B_X2_mendersNow_4
    rw [w.2.2.1, if_pos (Int32.le_refl _)]
  · unfold B_X2_mendersNow_4
    rw [w.2.2.1, if_le (by omega) (by omega), if_neg (by omega), may_c w hi ht, b1s, ad1]
    by_cases h : mmS v i t
    · rw [if_pos h, if_neg (show ¬ (1 : Int32) = 0 by decide)]
    · rw [if_neg h, if_pos rfl, Int32.add_zero]
theorem eq_says {no : SV} {ss rf re : Nat → Int32} (h : ST no ss) (q : RF rf re) (a b : Int32) : ∃ r no' rf' ss' re', M_X3_says no rf a b = some (r, no', rf') ∧ M_X4_says ss re a b = some (r, ss', re') ∧ ST no' ss' ∧ RF rf' re' := by
  obtain ⟨P, T, d, w, hd, hd2, hr⟩ := id h
  have hP := w.1
  have hT := w.2.1
  unfold M_X3_says M_X4_says
  rw [isP_c, chkc, isT_c, chkc, isP_m hr w, chkc, isT_m hr w, chkc]
  by_cases hp : 0 ≤ a ∧ a < sPe no
  · rw [if_pos hp, if_pos hp]
    by_cases ht : 0 ≤ b ∧ b < sTh no
    · rw [if_pos ht, if_pos ht]
      rw [w.2.2.1] at hp
      rw [w.2.2.2.1] at ht
      obtain ⟨p, hp1, rfl⟩ := ix_of (by omega) hp
      obtain ⟨t, ht1, rfl⟩ := ix_of (by omega) ht
      simp only [ofT_nI, b1s, ad4]
      rw [isMourned_c no (by omega), chkc, chk_nI (by omega) (by omega), nI_clamp (by omega), chk_nI (by omega) (by omega), chk_nI (by omega) (by omega), nI_clamp (by omega), hr.br (by omega)]
      by_cases hw : sBr no t = -8
      · have w' : WF (sUBr no (upd (sBr no) t (nI p))) P T := w.uBr t (Or.inr (Or.inr ⟨p, hp1, rfl⟩))
        have r' := hr.uBr t (by omega) (nI p)
        rw [if_pos hw, if_pos hw, mendersNow_c w' ht1, b1s, mendersOf_m r' w' ht1, b1s, clrS _ hP (by omega), bits_m _ (Nat.lt_of_lt_of_le (bS_le _ (show P ≤ 9 by omega)) (by decide)), b1s, pcS _ P (by omega)]
        refine ⟨_, _, _, _, _, rfl, ?_, ⟨P, T, d, w', hd, hd2, r'⟩, q⟩
        congr 2
        congr 1
        refine kS_cong P (fun k hk => ?_)
        have e : sBr (sUBr no (upd (sBr no) t (nI p))) t = nI p := up_s
        show (abS (sUBr no (upd (sBr no) t (nI p))) t k ∧ k ≠ p) ↔ mmS (sUBr no (upd (sBr no) t (nI p))) k t
        unfold mmS
        rw [e]
        constructor
        · intro x
          exact ⟨nI_pos (by omega), fun y => x.2 ((nI_eq (by omega) (by omega)).mp y).symm, x.1⟩
        · intro x
          exact ⟨x.2.2, fun y => x.2.1 (by rw [y])⟩
      · rw [if_neg hw, if_neg hw]
        obtain ⟨rf', re', e1, e2, q'⟩ := refu q (c := -3) (by decide)
        rw [e1, e2, b2s, b2s]
        exact ⟨_, _, _, _, _, rfl, rfl, h, q'⟩
    · rw [if_neg ht, if_neg ht]
      obtain ⟨rf', re', e1, e2, q'⟩ := refu q (c := -1) (by decide)
      rw [e1, e2, b2s, b2s]
      exact ⟨_, _, _, _, _, rfl, rfl, h, q'⟩
  · rw [if_neg hp, if_neg hp]
    obtain ⟨rf', re', e1, e2, q'⟩ := refu q (c := -1) (by decide)
    rw [e1, e2, b2s, b2s]
    exact ⟨_, _, _, _, _, rfl, rfl, h, q'⟩
theorem eq_menders {no : SV} {ss rf re : Nat → Int32} (h : ST no ss) (q : RF rf re) (b : Int32) : ∃ r rf' re', M_X3_menders no rf b = some (r, rf') ∧ M_X4_menders ss re b = some (r, re') ∧ RF rf' re' := by
  obtain ⟨P, T, d, w, hd, hd2, hr⟩ := id h
  have hT := w.2.1
  unfold M_X3_menders M_X4_menders
  rw [isT_c, chkc, isT_m hr w, chkc]
  by_cases ht : 0 ≤ b ∧ b < sTh no
  · rw [if_pos ht, if_pos ht]
    rw [w.2.2.2.1] at ht
    obtain ⟨t, ht1, rfl⟩ := ix_of (by omega) ht
    rw [ableBits_c w ht1, b1s, mendersOf_m hr w ht1, b1s]
    exact ⟨_, _, _, rfl, rfl, q⟩
  · rw [if_neg ht, if_neg ht]
    obtain ⟨rf', re', e1, e2, q'⟩ := refu q (c := -1) (by decide)
    rw [e1, e2, b2s, b2s]
    exact ⟨_, _, _, rfl, rfl, q'⟩
/-! ### person, thing -/
theorem ownedBy_c {v : SV} {P T : Nat} (w : WF v P T) (x : Int32) : M_X2_ownedBy v x = some (sumF (fun t => if sOw v t = x then 1 else 0) T) := by
  have hT := w.2.1
  unfold M_X2_ownedBy
  refine sumL (fun _ _ => none) (B_X2_ownedBy_4 x v) _ T some (by omega) (fun f acc => ?_) (fun f acc i hi => ?_)
  · unfold B_X2_ownedBy_4
    rw [w.2.2.2.1, if_pos (Int32.le_refl _)]
  · unfold B_X2_ownedBy_4
    rw [w.2.2.2.1, if_le (by omega) (by omega), if_neg (by omega), chk_nI (by omega) (by omega), nI_clamp (by omega), ad1]
    by_cases h : sOw v i = x
    · rw [if_pos h, if_pos h]
    · rw [if_neg h, if_neg h]
theorem brokenBy_c {v : SV} {P T : Nat} (w : WF v P T) (x : Int32) : M_X2_brokenBy v x = some (sumF (fun t => if sBr v t = x then 1 else 0) T) := by
  have hT := w.2.1
  unfold M_X2_brokenBy
  refine sumL (fun _ _ => none) (B_X2_brokenBy_4 x v) _ T some (by omega) (fun f acc => ?_) (fun f acc i hi => ?_)
  · unfold B_X2_brokenBy_4
    rw [w.2.2.2.1, if_pos (Int32.le_refl _)]
  · unfold B_X2_brokenBy_4
    rw [w.2.2.2.1, if_le (by omega) (by omega), if_neg (by omega), chk_nI (by omega) (by omega), nI_clamp (by omega), ad1]
    by_cases h : sBr v i = x
    · rw [if_pos h, if_pos h]
    · rw [if_neg h, if_neg h]
theorem brokenBy_m {v : SV} {i : Int32} {r : Nat → Int32} (h : RR v i r) {P T : Nat} (w : WF v P T) (x : Int32) : M_X4_brokenBy r x = some (sumF (fun t => if sBr v t = x then 1 else 0) T) := by
  have hT := w.2.1
  unfold M_X4_brokenBy
  refine sumL (fun _ _ => none) (B_X4_brokenBy_4 x r) _ T some (by omega) (fun f acc => ?_) (fun f acc i hi => ?_)
  · unfold B_X4_brokenBy_4
    rw [h.th, w.2.2.2.1, if_pos (Int32.le_refl _)]
  · unfold B_X4_brokenBy_4
    rw [h.th, w.2.2.2.1, if_le (by omega) (by omega), if_neg (by omega), ofT_nI, b1s, ad4, chk_nI (by omega) (by omega), nI_clamp (by omega), h.br (by omega), ad1]
    by_cases hb : sBr v i = x
    · rw [if_pos hb, if_pos hb]
    · rw [if_neg hb, if_neg hb]
theorem personLoop_m {v : SV} {i : Int32} {r : Nat → Int32} (h : RR v i r) {P T : Nat} (w : WF v P T) (re : Nat → Int32) (x y : Int32) : fuel (fun _ _ => none) (B_X4_person_56 x y r re) FU 0 0 = some (sumF (fun t => if (if y = 2 then sOw v t else sBr v t) = x then 1 else 0) T, re) := by
  have hT := w.2.1
  refine sumL (fun _ _ => none) (B_X4_person_56 x y r re) _ T (fun s => some (s, re)) (by omega) (fun f acc => ?_) (fun f acc i hi => ?_)
  · unfold B_X4_person_56
    rw [h.th, w.2.2.2.1, if_pos (Int32.le_refl _)]
  · unfold B_X4_person_56
    rw [h.th, w.2.2.2.1, if_le (by omega) (by omega), if_neg (by omega), ofT_nI, b1s, ad4, ad2, chk_nI (by omega) (by omega), chk_nI (by omega) (by omega), nI_clamp (by omega), nI_clamp (by omega), h.br (by omega), h.ow (by omega), ad1]
    by_cases hy : y = 2
    · rw [if_pos hy, if_pos hy]
      by_cases hb : sOw v i = x
      · rw [if_pos hb, if_pos hb]
      · rw [if_neg hb, if_neg hb]
    · rw [if_neg hy, if_neg hy]
      by_cases hb : sBr v i = x
      · rw [if_pos hb, if_pos hb]
      · rw [if_neg hb, if_neg hb]
theorem eq_person {no : SV} {ss rf re : Nat → Int32} (h : ST no ss) (q : RF rf re) (a b : Int32) : ∃ r rf' re', M_X3_person no rf a b = some (r, rf') ∧ M_X4_person ss re a b = some (r, re') ∧ RF rf' re' := by
  obtain ⟨P, T, d, w, hd, hd2, hr⟩ := id h
  have hP := w.1
  have hT := w.2.1
  unfold M_X3_person M_X4_person
  rw [isP_c, chkc, isP_m hr w, chkc]
  by_cases hp : 0 ≤ a ∧ a < sPe no
  · rw [if_pos hp, if_pos hp]
    rw [w.2.2.1] at hp
    obtain ⟨p, hp1, rfl⟩ := ix_of (by omega) hp
    rw [ownedBy_c w, brokenBy_c w, b1s, b1s, ofP_nI, b1s, personLoop_m hr w, isIn_m, isIn_m, b1s, b1s]
    by_cases h0 : b = 0
    · subst h0
      rw [if_pos rfl, if_neg (show ¬ ((if (0 : Int32) < 0 then (0 : Int32) else if (1 : Int32) < 0 then 0 else 1) = 0) by decide), ad0, chk_nI (by omega) (by omega), chk_nI (by omega) (by omega), nI_clamp (by omega), nI_clamp (by omega), hr.sk (by omega)]
      exact ⟨_, _, _, rfl, rfl, q⟩
    rw [if_neg h0]
    by_cases h1 : b = 1
    · subst h1
      rw [if_pos rfl, if_neg (show ¬ ((if (1 : Int32) < 0 then (0 : Int32) else if (1 : Int32) < 1 then 0 else 1) = 0) by decide), ad1, chk_nI (by omega) (by omega), chk_nI (by omega) (by omega), nI_clamp (by omega), nI_clamp (by omega), hr.me (by omega)]
      exact ⟨_, _, _, rfl, rfl, q⟩
    rw [if_neg h1]
    by_cases h2 : b = 2
    · subst h2
      rw [if_pos rfl, if_pos (show ((if (2 : Int32) < 0 then (0 : Int32) else if (1 : Int32) < 2 then 0 else 1) = 0) by decide), if_neg (show ¬ ((if (2 : Int32) < 2 then (0 : Int32) else if (3 : Int32) < 2 then 0 else 1) = 0) by decide)]
      exact ⟨_, _, _, rfl, rfl, q⟩
    rw [if_neg h2]
    by_cases h3 : b = 3
    · subst h3
      rw [if_pos rfl, if_pos (show ((if (3 : Int32) < 0 then (0 : Int32) else if (1 : Int32) < 3 then 0 else 1) = 0) by decide), if_neg (show ¬ ((if (3 : Int32) < 2 then (0 : Int32) else if (3 : Int32) < 3 then 0 else 1) = 0) by decide)]
      exact ⟨_, _, _, rfl, rfl, q⟩
    rw [if_neg h3]
    have i0 := fx_toInt_ne h0
    have i1 := fx_toInt_ne h1
    have i2 := fx_toInt_ne h2
    have i3 := fx_toInt_ne h3
    rw [show (0 : Int32).toInt = 0 from rfl] at i0
    rw [show (1 : Int32).toInt = 1 from rfl] at i1
    rw [show (2 : Int32).toInt = 2 from rfl] at i2
    rw [show (3 : Int32).toInt = 3 from rfl] at i3
    have e1 : (if b < 0 then (0 : Int32) else if (1 : Int32) < b then 0 else 1) = 0 := by
      by_cases x : b < 0
      · rw [if_pos x]
      · rw [if_neg x, if_pos]
        rw [Int32.lt_iff_toInt_lt, show (0 : Int32).toInt = 0 from rfl] at x
        rw [Int32.lt_iff_toInt_lt, show (1 : Int32).toInt = 1 from rfl]
        omega
    have e2 : (if b < 2 then (0 : Int32) else if (3 : Int32) < b then 0 else 1) = 0 := by
      by_cases x : b < 2
      · rw [if_pos x]
      · rw [if_neg x, if_pos]
        rw [Int32.lt_iff_toInt_lt, show (2 : Int32).toInt = 2 from rfl] at x
        rw [Int32.lt_iff_toInt_lt, show (3 : Int32).toInt = 3 from rfl]
        omega
    rw [if_pos e1, if_pos e2]
    obtain ⟨rf', re', e1, e2, q'⟩ := refu q (c := -2) (by decide)
    rw [e1, e2, b2s, b2s]
    exact ⟨_, _, _, rfl, rfl, q'⟩
  · rw [if_neg hp, if_neg hp]
    obtain ⟨rf', re', e1, e2, q'⟩ := refu q (c := -1) (by decide)
    rw [e1, e2, b2s, b2s]
    exact ⟨_, _, _, rfl, rfl, q'⟩
theorem eq_thing {no : SV} {ss rf re : Nat → Int32} (h : ST no ss) (q : RF rf re) (a b : Int32) : ∃ r rf' re', M_X3_thing no rf a b = some (r, rf') ∧ M_X4_thing ss re a b = some (r, re') ∧ RF rf' re' := by
  obtain ⟨P, T, d, w, hd, hd2, hr⟩ := id h
  have hP := w.1
  have hT := w.2.1
  unfold M_X3_thing M_X4_thing
  rw [isT_c, chkc, isT_m hr w, chkc]
  by_cases ht : 0 ≤ a ∧ a < sTh no
  · rw [if_pos ht, if_pos ht]
    rw [w.2.2.2.1] at ht
    obtain ⟨t, ht1, rfl⟩ := ix_of (by omega) ht
    obtain ⟨-, -, -, ⟨f, hf, ef⟩⟩ := w.2.2.2.2 t ht1
    simp only [chk_nI (show t < 9 by omega) (show (9 : Nat) < 2 ^ 31 by decide), nI_clamp (show t < 2 ^ 31 by omega), ofT_nI, b1s, ad0, ad1]
    rw [hard_c w ht1, b1s, hard_m hr w ht1, b1s, hd, ad1, more_c (by omega) hf ef (by omega), b1s, hr.da, hd, ad1, chk_nI (show 16 + 5 * t < 61 by omega) (by omega), chk_nI (show 16 + 5 * t + 1 < 61 by omega) (by omega), nI_clamp (show 16 + 5 * t < 2 ^ 31 by omega), nI_clamp (show 16 + 5 * t + 1 < 2 ^ 31 by omega), hr.ki (by omega), hr.fi (by omega), ef, more_m hf (by omega), b1s, isIn_m, b1s]
    by_cases h0 : b = 0
    · subst h0
      rw [if_pos rfl, if_neg (show ¬ ((if (0 : Int32) < 0 then (0 : Int32) else if (4 : Int32) < 0 then 0 else 1) = 0) by decide), ad0, chk_nI (by omega) (by omega), nI_clamp (by omega), hr.ki (by omega)]
      exact ⟨_, _, _, rfl, rfl, q⟩
    rw [if_neg h0]
    by_cases h1 : b = 1
    · subst h1
      rw [if_pos rfl, if_neg (show ¬ ((if (1 : Int32) < 0 then (0 : Int32) else if (4 : Int32) < 1 then 0 else 1) = 0) by decide), ad1, chk_nI (by omega) (by omega), nI_clamp (by omega), hr.fi (by omega), ef]
      exact ⟨_, _, _, rfl, rfl, q⟩
    rw [if_neg h1]
    by_cases h2 : b = 2
    · subst h2
      rw [if_pos rfl, if_neg (show ¬ ((if (2 : Int32) < 0 then (0 : Int32) else if (4 : Int32) < 2 then 0 else 1) = 0) by decide), ad2, chk_nI (by omega) (by omega), nI_clamp (by omega), hr.ow (by omega)]
      exact ⟨_, _, _, rfl, rfl, q⟩
    rw [if_neg h2]
    by_cases h3 : b = 3
    · subst h3
      rw [if_pos rfl, if_neg (show ¬ ((if (3 : Int32) < 0 then (0 : Int32) else if (4 : Int32) < 3 then 0 else 1) = 0) by decide), ad3, chk_nI (by omega) (by omega), nI_clamp (by omega), hr.we (by omega)]
      exact ⟨_, _, _, rfl, rfl, q⟩
    rw [if_neg h3]
    by_cases h4 : b = 4
    · subst h4
      rw [if_pos rfl, if_neg (show ¬ ((if (4 : Int32) < 0 then (0 : Int32) else if (4 : Int32) < 4 then 0 else 1) = 0) by decide), ad4, chk_nI (by omega) (by omega), nI_clamp (by omega), hr.br (by omega)]
      exact ⟨_, _, _, rfl, rfl, q⟩
    rw [if_neg h4]
    have i0 := fx_toInt_ne h0
    have i1 := fx_toInt_ne h1
    have i2 := fx_toInt_ne h2
    have i3 := fx_toInt_ne h3
    have i4 := fx_toInt_ne h4
    rw [show (0 : Int32).toInt = 0 from rfl] at i0
    rw [show (1 : Int32).toInt = 1 from rfl] at i1
    rw [show (2 : Int32).toInt = 2 from rfl] at i2
    rw [show (3 : Int32).toInt = 3 from rfl] at i3
    rw [show (4 : Int32).toInt = 4 from rfl] at i4
    have e1 : (if b < 0 then (0 : Int32) else if (4 : Int32) < b then 0 else 1) = 0 := by
      by_cases x : b < 0
      · rw [if_pos x]
      · rw [if_neg x, if_pos]
        rw [Int32.lt_iff_toInt_lt, show (0 : Int32).toInt = 0 from rfl] at x
        rw [Int32.lt_iff_toInt_lt, show (4 : Int32).toInt = 4 from rfl]
        omega
    rw [if_pos e1]
    by_cases h5 : b = 5
    · rw [if_pos h5, if_pos h5]
      exact ⟨_, _, _, rfl, rfl, q⟩
    rw [if_neg h5, if_neg h5]
    by_cases h6 : b = 6
    · rw [if_pos h6, if_pos h6]
      exact ⟨_, _, _, rfl, rfl, q⟩
    rw [if_neg h6, if_neg h6]
    obtain ⟨rf', re', e1, e2, q'⟩ := refu q (c := -2) (by decide)
    rw [e1, e2, b2s, b2s]
    exact ⟨_, _, _, rfl, rfl, q'⟩
  · rw [if_neg ht, if_neg ht]
    obtain ⟨rf', re', e1, e2, q'⟩ := refu q (c := -1) (by decide)
    rw [e1, e2, b2s, b2s]
    exact ⟨_, _, _, rfl, rfl, q'⟩
