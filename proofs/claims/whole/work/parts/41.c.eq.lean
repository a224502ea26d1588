/-! ### lost -/
theorem if_e0 {α : Type} {a : Nat} (ha : a < 2 ^ 31) {inst : Decidable (nI a = 0)} (X Y : α) : (@ite α (nI a = 0) inst X Y) = if a = 0 then X else Y := if_eq (a := a) (b := 0) ha (by omega) X Y
theorem kS_none {p : Nat → Prop} [DecidablePred p] : ∀ n, kS p n = 0 ↔ ∀ t, t < n → ¬ p t
  | 0 => ⟨fun _ t h => absurd h (Nat.not_lt_zero _), fun _ => rfl⟩
  | n + 1 => by
    have ih := kS_none (p := p) n
    unfold kS
    constructor
    · intro h t ht
      by_cases hp : p n
      · rw [if_pos hp] at h; omega
      · rw [if_neg hp] at h
        by_cases e : t = n
        · subst e; exact hp
        · exact ih.mp (by omega) t (by omega)
    · intro h
      rw [if_neg (h n (by omega)), ih.mpr (fun t ht => h t (by omega))]
theorem lost34 {v : SV} {i : Int32} {r : Nat → Int32} (h : RR v i r) {P T : Nat} (w : WF v P T) {t : Nat} (ht : t < T) (x1 : Int32) (K : Int32 → Option Int32) : fuel (fun _ _ => none) (B_X4_lost_34 x1 (nI t) r K) FU 1 0 = K (if kS (fun p => mmS v p t) P = 0 then 1 else 0) ∧ fuel (fun _ _ => none) (B_X4_lost_34 x1 (nI t) r K) FU 0 0 = K 0 := by
  have hP := w.1
  have h1 : ∀ n, ∀ i, i ≤ P → P - i < n → fuel (fun _ _ => none) (B_X4_lost_34 x1 (nI t) r K) n (if kS (fun p => mmS v p t) i = 0 then 1 else 0) (nI i) = K (if kS (fun p => mmS v p t) P = 0 then 1 else 0) := fuelP (fun _ _ => none) (B_X4_lost_34 x1 (nI t) r K) (fun n f => ∀ i, i ≤ P → P - i < n → f (if kS (fun p => mmS v p t) i = 0 then 1 else 0) (nI i) = K (if kS (fun p => mmS v p t) P = 0 then 1 else 0)) (fun i _ h => absurd h (Nat.not_lt_zero _)) (fun k f hf i hi hk => by
    unfold B_X4_lost_34
    rw [h.pe, w.2.2.1, if_le (by omega) (by omega)]
    by_cases hh : P ≤ i
    · rw [if_pos hh, show i = P by omega]
    · rw [if_neg hh, may_m h w (by omega) ht, b1s, ad1, ← hf (i + 1) (by omega) (by omega)]
      by_cases hm : mmS v i t
      · rw [if_pos hm, if_neg (show ¬ (1 : Int32) = 0 by decide)]
        have e : kS (fun p => mmS v p t) (i + 1) = kS (fun p => mmS v p t) i + 1 := by
          show kS (fun p => mmS v p t) i + (if mmS v i t then 1 else 0) = _
          rw [if_pos hm]
        rw [e, if_neg (show ¬ (kS (fun p => mmS v p t) i + 1 = 0) by omega)]
        congr 1
        split <;> rfl
      · rw [if_neg hm, if_pos rfl]
        have e : kS (fun p => mmS v p t) (i + 1) = kS (fun p => mmS v p t) i := by
          show kS (fun p => mmS v p t) i + (if mmS v i t then 1 else 0) = _
          rw [if_neg hm]
          rfl
        rw [e]
        congr 1
        split <;> rfl)
  have h2 : ∀ n, ∀ i, i ≤ P → P - i < n → fuel (fun _ _ => none) (B_X4_lost_34 x1 (nI t) r K) n 0 (nI i) = K 0 := fuelP (fun _ _ => none) (B_X4_lost_34 x1 (nI t) r K) (fun n f => ∀ i, i ≤ P → P - i < n → f 0 (nI i) = K 0) (fun i _ h => absurd h (Nat.not_lt_zero _)) (fun k f hf i hi hk => by
    unfold B_X4_lost_34
    rw [h.pe, w.2.2.1, if_le (by omega) (by omega)]
    by_cases hh : P ≤ i
    · rw [if_pos hh]
    · rw [if_neg hh, may_m h w (by omega) ht, b1s, ad1]
      rw [show ((0 : Int32) &&& 1) = 0 from rfl, show ((0 : Int32) &&& 0) = 0 from rfl, hf (i + 1) (by omega) (by omega)]
      split <;> rfl)
  exact ⟨h1 FU 0 (Nat.zero_le _) (by rw [FU_eq]; omega), h2 FU 0 (Nat.zero_le _) (by rw [FU_eq]; omega)⟩
theorem eq_lost {no : SV} {ss : Nat → Int32} (h : ST no ss) : ∃ r, M_X3_lost no = some r ∧ M_X4_lost ss = some r := by
  obtain ⟨P, T, d, w, hd, hd2, hr⟩ := id h
  have hP := w.1
  have hT := w.2.1
  refine ⟨nI (bS (fun t => ¬ isW no t ∧ kS (fun p => mmS no p t) P = 0) T), ?_, ?_⟩
  · unfold M_X3_lost
    refine bitL (fun _ _ => none) (B_X3_lost_4 no) _ T some (by omega) (fun f acc => ?_) (fun f acc i hi => ?_)
    · unfold B_X3_lost_4
      rw [w.2.2.2.1, if_pos (Int32.le_refl _)]
    · unfold B_X3_lost_4
      have hc := kS_le (fun p => mmS no p i) P
      rw [w.2.2.2.1, if_le (by omega) (by omega), if_neg (by omega), isWhole_c no (by omega), b1s, mendersNow_c w hi, b1s, ad1, if_e0 (by omega)]
      by_cases hw : sBr no i = -9
      · rw [if_pos hw, if_neg (show ¬ (1 : Int32) = 0 by decide), if_neg (fun q => q.1 hw)]
      · rw [if_neg hw, if_pos rfl]
        by_cases hk : kS (fun p => mmS no p i) P = 0
        · rw [if_pos hk, if_pos ⟨hw, hk⟩]
        · rw [if_neg hk, if_neg (fun q => hk q.2)]
  · unfold M_X4_lost
    refine bitL (fun _ _ => none) (B_X4_lost_4 ss) _ T some (by omega) (fun f acc => ?_) (fun f acc i hi => ?_)
    · unfold B_X4_lost_4
      rw [hr.th, w.2.2.2.1, if_pos (Int32.le_refl _)]
    · unfold B_X4_lost_4
      rw [hr.th, w.2.2.2.1, if_le (by omega) (by omega), if_neg (by omega), isWhole_m ss (by omega), hr.br (by omega), b1s, (lost34 hr w hi _ _).1, (lost34 hr w hi _ _).2, ad1]
      by_cases hw : sBr no i = -9
      · rw [if_pos hw, if_neg (show ¬ (1 : Int32) = 0 by decide), if_pos rfl, if_neg (fun q => q.1 hw), or_zero]
      · rw [if_neg hw, if_pos rfl]
        by_cases hk : kS (fun p => mmS no p i) P = 0
        · rw [if_pos hk, if_neg (show ¬ (1 : Int32) = 0 by decide), if_pos ⟨hw, hk⟩]
        · rw [if_neg hk, if_pos rfl, if_neg (fun q => hk q.2), or_zero]
/-! ### due -/
def duS (v : SV) (x : Int32) (t : Nat) : Int32 := if sBr v t = x ∧ ¬ sOw v t = x then 1 else if sOw v t = x ∧ ¬ sBr v t < 0 ∧ ¬ sBr v t = x then -1 else 0
theorem eq_due {no : SV} {ss rf re : Nat → Int32} (h : ST no ss) (q : RF rf re) (a : Int32) : ∃ r rf' re', M_X3_due no rf a = some (r, rf') ∧ M_X4_due ss re a = some (r, re') ∧ RF rf' re' := by
  obtain ⟨P, T, d, w, hd, hd2, hr⟩ := id h
  have hP := w.1
  have hT := w.2.1
  unfold M_X3_due M_X4_due M_X4_noFar
  rw [isP_c, chkc, isP_m hr w, chkc]
  by_cases hp : 0 ≤ a ∧ a < sPe no
  · rw [if_pos hp, if_pos hp]
    rw [w.2.2.1] at hp
    obtain ⟨p, hp1, rfl⟩ := ix_of (by omega) hp
    have d0 : ∀ i, ¬ (sBr no i = nI p ∧ ¬ sOw no i = nI p) → ¬ (sOw no i = nI p ∧ ¬ sBr no i < 0 ∧ ¬ sBr no i = nI p) → duS no (nI p) i = 0 := fun i x y => by unfold duS; rw [if_neg x, if_neg y]
    have d1 : ∀ i, (sBr no i = nI p ∧ ¬ sOw no i = nI p) → duS no (nI p) i = 1 := fun i x => by unfold duS; rw [if_pos x]
    have d2 : ∀ i, ¬ (sBr no i = nI p ∧ ¬ sOw no i = nI p) → (sOw no i = nI p ∧ ¬ sBr no i < 0 ∧ ¬ sBr no i = nI p) → duS no (nI p) i = -1 := fun i x y => by unfold duS; rw [if_neg x, if_pos y]
    have c1 : fuel (fun _ _ => none) (B_X3_due_24 (nI p) no rf) FU 0 0 = some (sumF (duS no (nI p)) T, rf) := by
      refine sumL (fun _ _ => none) (B_X3_due_24 (nI p) no rf) _ T (fun s => some (s, rf)) (by omega) (fun f acc => ?_) (fun f acc i hi => ?_)
      · unfold B_X3_due_24
        rw [w.2.2.2.1, if_pos (Int32.le_refl _)]
      · unfold B_X3_due_24 M_X2_isByAnother
        simp only [chk_nI (show i < 9 by omega) (show (9 : Nat) < 2 ^ 31 by decide), nI_clamp (show i < 2 ^ 31 by omega)]
        rw [w.2.2.2.1, if_le (by omega) (by omega), if_neg (show ¬ T ≤ i by omega), ad1]
        by_cases h0 : sBr no i < 0
        · have hne : ¬ sBr no i = nI p := fun e => absurd h0 (by rw [e]; exact nI_pos (by omega))
          rw [if_pos h0, b1s, if_pos rfl, d0 i (fun q => hne q.1) (fun q => q.2.1 h0), Int32.add_zero]
        · rw [if_neg h0]
          by_cases h1 : sBr no i = sOw no i
          · rw [if_pos h1, b1s, if_pos rfl, d0 i (fun q => q.2 (h1 ▸ q.1)) (fun q => q.2.2 (h1.trans q.1)), Int32.add_zero]
          · rw [if_neg h1, b1s, if_neg (show ¬ (1 : Int32) = 0 by decide)]
            by_cases h2 : sBr no i = nI p
            · rw [if_pos h2, d1 i ⟨h2, fun e => h1 (h2.trans e.symm)⟩]
            · rw [if_neg h2]
              by_cases h3 : sOw no i = nI p
              · rw [if_pos h3, d2 i (fun q => h2 q.1) ⟨h3, h0, h2⟩]
              · rw [if_neg h3, d0 i (fun q => h2 q.1) (fun q => h3 q.1), Int32.add_zero]
    have c2 : fuel (fun _ _ => none) (B_X4_due_18 (nI p) ss re) FU 0 0 = some (sumF (duS no (nI p)) T, re) := by
      refine sumL (fun _ _ => none) (B_X4_due_18 (nI p) ss re) _ T (fun s => some (s, re)) (by omega) (fun f acc => ?_) (fun f acc i hi => ?_)
      · unfold B_X4_due_18
        rw [hr.th, w.2.2.2.1, if_pos (Int32.le_refl _)]
      · unfold B_X4_due_18 M_X4_hasBroken
        simp only [ofT_nI, b1s, ad4, ad2]
        simp only [chk_nI (show 16 + 5 * i + 4 < 61 by omega) (show (61 : Nat) < 2 ^ 31 by decide), chk_nI (show 16 + 5 * i + 2 < 61 by omega) (show (61 : Nat) < 2 ^ 31 by decide), nI_clamp (show 16 + 5 * i + 4 < 2 ^ 31 by omega), nI_clamp (show 16 + 5 * i + 2 < 2 ^ 31 by omega), hr.br (show i < 9 by omega), hr.ow (show i < 9 by omega)]
        rw [hr.th, w.2.2.2.1, if_le (by omega) (by omega), if_neg (show ¬ T ≤ i by omega), ad1]
        by_cases h2 : sBr no i = nI p
        · rw [if_pos h2]
          by_cases h3 : sOw no i = nI p
          · rw [if_pos h3, b1s, if_pos rfl, if_pos h3, if_neg (show ¬ sBr no i < 0 by rw [h2]; exact nI_pos (by omega)), d0 i (fun q => q.2 h3) (fun q => q.2.2 h2), if_pos h2]
            simp only [Int32.add_zero, Int32.sub_zero]
          · rw [if_neg h3, b1s, if_neg (show ¬ (1 : Int32) = 0 by decide), if_neg h3, d1 i ⟨h2, h3⟩, Int32.sub_zero]
        · rw [if_neg h2, b1s, if_pos rfl]
          by_cases h3 : sOw no i = nI p
          · rw [if_pos h3]
            by_cases h0 : sBr no i < 0
            · rw [if_pos h0, d0 i (fun q => h2 q.1) (fun q => q.2.1 h0)]
              simp only [Int32.add_zero, Int32.sub_zero]
            · rw [if_neg h0, if_neg h2, d2 i (fun q => h2 q.1) ⟨h3, h0, h2⟩, Int32.add_zero, Int32.sub_eq_add_neg]
          · rw [if_neg h3, d0 i (fun q => h2 q.1) (fun q => h3 q.1)]
            simp only [Int32.add_zero, Int32.sub_zero]
    exact ⟨_, _, _, c1, c2, q⟩
  · rw [if_neg hp, if_neg hp]
    obtain ⟨rf', re', e1, e2, q'⟩ := refu q (c := -1) (by decide)
    rw [e1, e2, b2s, b2s, b2s]
    exact ⟨_, _, _, rfl, rfl, q'⟩
/-! ### ring -/
theorem blS_c {v : SV} {i : Int32} {r : Nat → Int32} (h : RR v i r) {P T : Nat} (w : WF v P T) {p : Nat} (hp : p < P) : ∃ b : Int32, M_X2_breakerOfLeast v (nI p) = some b ∧ M_X4_breakerOf r (nI p) = some b ∧ (b = -9 ∨ ∃ k : Nat, k < P ∧ b = nI k) := by
  have hP := w.1
  have hT := w.2.1
  have e1 : M_X2_breakerOfLeast v (nI p) = (match fnd (fun t => sOw v t = nI p ∧ ¬ sBr v t < 0 ∧ ¬ sBr v t = sOw v t) T 0 with | none => some (-9) | some t => some (sBr v t)) := by
    unfold M_X2_breakerOfLeast
    refine findL (fun _ => none) (B_X2_breakerOfLeast_2 (nI p) v) _ T (some (-9)) (fun t => some (sBr v t)) (by omega) (fun f => ?_) (fun f i hi => ?_)
    · unfold B_X2_breakerOfLeast_2
      rw [w.2.2.2.1, if_pos (Int32.le_refl _)]
    · unfold B_X2_breakerOfLeast_2 M_X2_isByAnother
      simp only [chk_nI (show i < 9 by omega) (show (9 : Nat) < 2 ^ 31 by decide), nI_clamp (show i < 2 ^ 31 by omega)]
      rw [w.2.2.2.1, if_le (by omega) (by omega), if_neg (by omega), ad1]
      by_cases h3 : sOw v i = nI p
      · rw [if_pos h3]
        by_cases h0 : sBr v i < 0
        · rw [if_pos h0, b1s, if_pos rfl, if_neg (fun q => q.2.1 h0)]
        · rw [if_neg h0]
          by_cases h1 : sBr v i = sOw v i
          · rw [if_pos h1, b1s, if_pos rfl, if_neg (fun q => q.2.2 h1)]
          · rw [if_neg h1, b1s, if_neg (show ¬ (1 : Int32) = 0 by decide), if_pos ⟨h3, h0, h1⟩]
      · rw [if_neg h3, if_neg (fun q => h3 q.1)]
  have e2 : M_X4_breakerOf r (nI p) = (match fnd (fun t => sOw v t = nI p ∧ ¬ sBr v t < 0 ∧ ¬ sBr v t = sOw v t) T 0 with | none => some (-9) | some t => some (sBr v t)) := by
    unfold M_X4_breakerOf
    refine findL (fun _ => none) (B_X4_breakerOf_2 (nI p) r) _ T (some (-9)) (fun t => some (sBr v t)) (by omega) (fun f => ?_) (fun f i hi => ?_)
    · unfold B_X4_breakerOf_2
      rw [h.th, w.2.2.2.1, if_pos (Int32.le_refl _)]
    · unfold B_X4_breakerOf_2
      simp only [ofT_nI, b1s, ad4, ad2]
      simp only [chk_nI (show 16 + 5 * i + 4 < 61 by omega) (show (61 : Nat) < 2 ^ 31 by decide), chk_nI (show 16 + 5 * i + 2 < 61 by omega) (show (61 : Nat) < 2 ^ 31 by decide), nI_clamp (show 16 + 5 * i + 4 < 2 ^ 31 by omega), nI_clamp (show 16 + 5 * i + 2 < 2 ^ 31 by omega), h.br (show i < 9 by omega), h.ow (show i < 9 by omega)]
      rw [h.th, w.2.2.2.1, if_le (by omega) (by omega), if_neg (by omega), ad1]
      by_cases h3 : sOw v i = nI p
      · rw [if_pos h3]
        by_cases h0 : sBr v i < 0
        · rw [if_pos h0, if_neg (fun q => q.2.1 h0)]
        · rw [if_neg h0]
          by_cases h1 : sBr v i = nI p
          · rw [if_pos h1, if_neg (fun q => q.2.2 (h1.trans h3.symm))]
          · rw [if_neg h1, if_pos ⟨h3, h0, fun e => h1 (e.trans h3)⟩]
      · rw [if_neg h3, if_neg (fun q => h3 q.1)]
  cases hf : fnd (fun t => sOw v t = nI p ∧ ¬ sBr v t < 0 ∧ ¬ sBr v t = sOw v t) T 0 with
  | none =>
    rw [hf] at e1 e2
    exact ⟨-9, e1, e2, Or.inl rfl⟩
  | some t =>
    rw [hf] at e1 e2
    obtain ⟨-, ht, hq, -⟩ := fnd_some hf
    refine ⟨sBr v t, e1, e2, ?_⟩
    rcases (w.2.2.2.2 t (by omega)).2.1 with e | e | ⟨k, hk, e⟩
    · exact Or.inl e
    · exact absurd (show sBr v t < 0 by rw [e]; decide) hq.2.1
    · exact Or.inr ⟨k, hk, e⟩
theorem bt0 : ∀ n, n < 64 → ∀ k, k < 6 → ((nI n &&& ((1 : Int32) <<< (nI k &&& 31))) = 0 ↔ n.testBit k = false) := by decide +kernel
theorem has_m : ∀ n, n < 64 → ∀ k, k < 6 → M_X4_has (nI n) (nI k) = some (if n.testBit k then 1 else 0) := by decide +kernel
theorem setb : ∀ n, n < 64 → ∀ k, k < 6 → n.testBit k = false → (nI n ||| ((1 : Int32) <<< (nI k &&& 31))) = nI (n ||| 2 ^ k) ∧ pcN (n ||| 2 ^ k) = pcN n + 1 ∧ n ||| 2 ^ k < 64 := by decide +kernel
theorem full6 : ∀ n, n < 64 → pcN n = 6 → ∀ k, k < 6 → n.testBit k = true := by decide +kernel
theorem eq_ring {no : SV} {ss rf re : Nat → Int32} (h : ST no ss) (q : RF rf re) (a b : Int32) : ∃ r rf' re', M_X3_ring no rf a b = some (r, rf') ∧ M_X4_ring ss re a b = some (r, re') ∧ RF rf' re' := by
  obtain ⟨P, T, d, w, hd, hd2, hr⟩ := id h
  have hP := w.1
  have hT := w.2.1
  unfold M_X3_ring M_X4_ring
  rw [isP_c, chkc, isP_m hr w, chkc, isIn_m]
  by_cases hp : 0 ≤ a ∧ a < sPe no
  · rw [if_pos hp, if_pos hp]
    rw [w.2.2.1] at hp
    obtain ⟨p, hp1, rfl⟩ := ix_of (by omega) hp
    by_cases hb : b < 0
    · rw [if_pos hb, if_pos hb, b1s, if_pos rfl]
      obtain ⟨rf', re', e1, e2, q'⟩ := refu q (c := -2) (by decide)
      rw [e1, e2, b2s, b2s]
      exact ⟨_, _, _, rfl, rfl, q'⟩
    rw [if_neg hb, if_neg hb]
    by_cases hb1 : b ≤ 1
    · rw [if_pos hb1, if_neg (Int32.not_lt.mpr hb1), b1s, if_neg (show ¬ (1 : Int32) = 0 by decide)]
      have key := fuelP2 (fun _ _ _ => none) (B_X3_ring_41 b no rf) (fun _ _ => none) (B_X4_ring_35 b ss re) (fun k f g => ∀ (i n : Nat) (at_ : Int32), i ≤ 6 → 6 - i < k → n < 64 → pcN n = i → (at_ = -9 ∨ ∃ k : Nat, k < P ∧ at_ = nI k) → ∃ out, f (nI n) at_ (nI i) = some (out, rf) ∧ g (nI n) at_ = some (out, re)) (fun i n at_ _ h => absurd h (Nat.not_lt_zero _)) (fun k f g hf i n at_ hi hk hn hpc hat => by
        unfold B_X3_ring_41 B_X4_ring_35
        rw [bitCount_c n (by omega), b1s, bits_m n (by omega), b1s, show (6 : Int32) = nI 6 from rfl, if_le (by omega) (by omega)]
        rcases hat with rfl | ⟨j, hj, rfl⟩
        · rw [if_pos (show (-9 : Int32) < 0 by decide), if_neg (show ¬ (0 : Int32) ≤ -9 by decide), if_pos (show (-9 : Int32) = -9 from rfl), if_pos (show (-9 : Int32) = -9 from rfl)]
          by_cases h6 : 6 ≤ i
          · rw [if_pos h6]
            by_cases hx : b = 0
            · rw [if_pos hx, if_pos hx]; exact ⟨_, rfl, rfl⟩
            · rw [if_neg hx, if_neg hx]; exact ⟨_, rfl, rfl⟩
          · rw [if_neg h6]
            by_cases hx : b = 0
            · rw [if_pos hx, if_pos hx]; exact ⟨_, rfl, rfl⟩
            · rw [if_neg hx, if_neg hx]; exact ⟨_, rfl, rfl⟩
        · have hj9 : ¬ nI j = -9 := fun e => absurd (show (-9 : Int32) < 0 by decide) (by rw [← e]; exact nI_pos (by omega))
          rw [if_neg (nI_pos (show j < 2 ^ 31 by omega)), if_pos (nI_pos' (show j < 2 ^ 31 by omega)), if_neg hj9, if_neg hj9, has_m n hn j (by omega), b1s]
          by_cases hbit : n.testBit j = true
          · rw [if_pos hbit, if_neg (show ¬ (1 : Int32) = 0 by decide), if_neg (show ¬ (nI n &&& ((1 : Int32) <<< (nI j &&& 31))) = 0 from fun e => by have := (bt0 n hn j (by omega)).mp e; rw [hbit] at this; cases this)]
            by_cases h6 : 6 ≤ i
            · rw [if_pos h6]
              by_cases hx : b = 0
              · rw [if_pos hx, if_pos hx]; exact ⟨_, rfl, rfl⟩
              · rw [if_neg hx, if_neg hx]; exact ⟨_, rfl, rfl⟩
            · rw [if_neg h6]
              by_cases hx : b = 0
              · rw [if_pos hx, if_pos hx]; exact ⟨_, rfl, rfl⟩
              · rw [if_neg hx, if_neg hx]; exact ⟨_, rfl, rfl⟩
          · have hbf : n.testBit j = false := by simpa using hbit
            have h6 : ¬ 6 ≤ i := fun e => hbit (full6 n hn (by omega) j (by omega))
            obtain ⟨bb, q1, q2, q3⟩ := blS_c hr w hj
            obtain ⟨s1, s2, s3⟩ := setb n hn j (by omega) hbf
            rw [if_neg hbit, if_pos rfl, if_pos ((bt0 n hn j (by omega)).mpr hbf), if_neg h6, q1, b1s, q2, b1s, s1, ad1]
            exact hf (i + 1) (n ||| 2 ^ j) bb (by omega) (by omega) s3 (by omega) q3) FU
      obtain ⟨out, o1, o2⟩ := key 0 0 (nI p) (by omega) (by rw [FU_eq]; omega) (by omega) rfl (Or.inr ⟨p, hp1, rfl⟩)
      exact ⟨_, _, _, o1, o2, q⟩
    · rw [if_neg hb1, if_pos (Int32.not_le.mp hb1), b1s, if_pos rfl]
      obtain ⟨rf', re', e1, e2, q'⟩ := refu q (c := -2) (by decide)
      rw [e1, e2, b2s, b2s]
      exact ⟨_, _, _, rfl, rfl, q'⟩
  · rw [if_neg hp, if_neg hp]
    obtain ⟨rf', re', e1, e2, q'⟩ := refu q (c := -1) (by decide)
    rw [e1, e2, b2s, b2s]
    exact ⟨_, _, _, rfl, rfl, q'⟩
/-! ### arranged -/
def hbS (v : SV) (x y : Int32) (T : Nat) : Int32 := match fnd (fun t => sBr v t = x ∧ sOw v t = y) T 0 with | none => 0 | some _ => 1
theorem hasBroken_c {v : SV} {P T : Nat} (w : WF v P T) (x y : Int32) : M_X2_hasBrokenOf v x y = some (hbS v x y T) := by
  have hT := w.2.1
  have e : M_X2_hasBrokenOf v x y = (match fnd (fun t => sBr v t = x ∧ sOw v t = y) T 0 with | none => some 0 | some _ => some 1) := by
    unfold M_X2_hasBrokenOf
    refine findL (fun _ => none) (B_X2_hasBrokenOf_2 x y v) _ T (some 0) (fun t => some 1) (by omega) (fun f => ?_) (fun f i hi => ?_)
    · unfold B_X2_hasBrokenOf_2
      rw [w.2.2.2.1, if_pos (Int32.le_refl _)]
    · unfold B_X2_hasBrokenOf_2
      simp only [chk_nI (show i < 9 by omega) (show (9 : Nat) < 2 ^ 31 by decide), nI_clamp (show i < 2 ^ 31 by omega)]
      rw [w.2.2.2.1, if_le (by omega) (by omega), if_neg (by omega), ad1]
      by_cases h1 : sBr v i = x
      · rw [if_pos h1]
        by_cases h2 : sOw v i = y
        · rw [if_pos h2, if_pos ⟨h1, h2⟩]
        · rw [if_neg h2, if_neg (fun q => h2 q.2)]
      · rw [if_neg h1, if_neg (fun q => h1 q.1)]
  rw [e]
  unfold hbS
  split <;> rfl
theorem brokeOne_m {v : SV} {i : Int32} {r : Nat → Int32} (h : RR v i r) {P T : Nat} (w : WF v P T) (x y : Int32) : M_X4_brokeOne r x y = some (hbS v x y T) := by
  have hT := w.2.1
  have e : M_X4_brokeOne r x y = (match fnd (fun t => sBr v t = x ∧ sOw v t = y) T 0 with | none => some 0 | some _ => some 1) := by
    unfold M_X4_brokeOne
    refine findL (fun _ => none) (B_X4_brokeOne_2 x y r) _ T (some 0) (fun t => some 1) (by omega) (fun f => ?_) (fun f i hi => ?_)
    · unfold B_X4_brokeOne_2
      rw [h.th, w.2.2.2.1, if_pos (Int32.le_refl _)]
    · unfold B_X4_brokeOne_2
      simp only [ofT_nI, b1s, ad4, ad2]
      simp only [chk_nI (show 16 + 5 * i + 4 < 61 by omega) (show (61 : Nat) < 2 ^ 31 by decide), chk_nI (show 16 + 5 * i + 2 < 61 by omega) (show (61 : Nat) < 2 ^ 31 by decide), nI_clamp (show 16 + 5 * i + 4 < 2 ^ 31 by omega), nI_clamp (show 16 + 5 * i + 2 < 2 ^ 31 by omega), h.br (show i < 9 by omega), h.ow (show i < 9 by omega)]
      rw [h.th, w.2.2.2.1, if_le (by omega) (by omega), if_neg (by omega), ad1]
      by_cases h2 : sOw v i = y
      · rw [if_pos h2]
        by_cases h1 : sBr v i = x
        · rw [if_pos h1, if_pos ⟨h1, h2⟩]
        · rw [if_neg h1, if_neg (fun q => h1 q.1)]
      · rw [if_neg h2, if_neg (fun q => h2 q.2)]
  rw [e]
  unfold hbS
  split <;> rfl
theorem twos_eq {v : SV} {i : Int32} {r : Nat → Int32} (h : RR v i r) {P T : Nat} (w : WF v P T) : ∃ x, M_X3_arrangements v = some x ∧ M_X4_arrangedTwos r = some x := by
  have hP := w.1
  unfold M_X3_arrangements M_X4_arrangedTwos
  have inner : ∀ (p : Nat), p < P → ∀ (K L : Int32 → Option Int32), (∀ x, ∃ o, K x = some o ∧ L x = some o) → ∀ n, ∀ (i : Nat) (x : Int32), i ≤ P → P - i < n → ∃ o, fuel (fun _ _ => none) (B_X3_arrangements_19 (nI p) v K) n x (nI i) = some o ∧ fuel (fun _ _ => none) (B_X4_arrangedTwos_18 (nI p) r L) n x (nI i) = some o := by
    intro p hp K L hKL n
    refine fuelP2 (fun _ _ => none) (B_X3_arrangements_19 (nI p) v K) (fun _ _ => none) (B_X4_arrangedTwos_18 (nI p) r L) (fun n f g => ∀ (i : Nat) (x : Int32), i ≤ P → P - i < n → ∃ o, f x (nI i) = some o ∧ g x (nI i) = some o) (fun i x _ h => absurd h (Nat.not_lt_zero _)) (fun k f g hf i x hi hk => ?_) n
    unfold B_X3_arrangements_19 B_X4_arrangedTwos_18
    rw [h.pe, w.2.2.1, if_le (by omega) (by omega), if_le (by omega) (by omega)]
    by_cases hh : P ≤ i
    · rw [if_pos hh, if_pos hh]; exact hKL x
    · rw [if_neg hh, if_neg hh, hasBroken_c w, hasBroken_c w, brokeOne_m h w, brokeOne_m h w, b1s, b1s, b1s, b1s, ad1, Int32.add_zero]
      obtain ⟨o, a1, a2⟩ := hf (i + 1) x (by omega) (by omega)
      obtain ⟨o', b1, b2⟩ := hf (i + 1) (x + 1) (by omega) (by omega)
      by_cases h1 : hbS v (nI p) (nI i) T = 0
      · rw [if_pos h1, if_pos h1]; exact ⟨o, a1, a2⟩
      · rw [if_neg h1, if_neg h1]
        by_cases h2 : hbS v (nI i) (nI p) T = 0
        · rw [if_pos h2, if_pos h2]; exact ⟨o, a1, a2⟩
        · rw [if_neg h2, if_neg h2]; exact ⟨o', b1, b2⟩
  refine fuelP2 (fun _ _ => none) (B_X3_arrangements_4 v) (fun _ _ => none) (B_X4_arrangedTwos_4 r) (fun n f g => ∀ (i : Nat) (x : Int32), i ≤ P → P - i < n → ∃ o, f x (nI i) = some o ∧ g x (nI i) = some o) (fun i x _ h => absurd h (Nat.not_lt_zero _)) (fun k f g hf i x hi hk => ?_) FU 0 0 (Nat.zero_le _) (by rw [FU_eq]; omega)
  unfold B_X3_arrangements_4 B_X4_arrangedTwos_4
  rw [h.pe, w.2.2.1, if_le (by omega) (by omega), if_le (by omega) (by omega)]
  by_cases hh : P ≤ i
  · rw [if_pos hh, if_pos hh]; exact ⟨x, rfl, rfl⟩
  · rw [if_neg hh, if_neg hh, ad1]
    exact inner i (by omega) _ _ (fun y => hf (i + 1) y (by omega) (by omega)) FU (i + 1) x (by omega) (by rw [FU_eq]; omega)
def rcS (v : SV) (x : Int32) (t : Nat) : Int32 := if isW v t ∧ sOw v t = x then sFi v t else 0
theorem riches_c {v : SV} {P T : Nat} (w : WF v P T) (x : Int32) : M_X2_riches v x = some (sumF (rcS v x) T) := by
  have hT := w.2.1
  unfold M_X2_riches
  refine sumL (fun _ _ => none) (B_X2_riches_4 x v) _ T some (by omega) (fun f acc => ?_) (fun f acc i hi => ?_)
  · unfold B_X2_riches_4
    rw [w.2.2.2.1, if_pos (Int32.le_refl _)]
  · unfold B_X2_riches_4 rcS
    rw [w.2.2.2.1, if_le (by omega) (by omega), if_neg (by omega), chk_nI (by omega) (by omega), chk_nI (by omega) (by omega), nI_clamp (by omega), isWhole_c v (by omega), b1s, ad1]
    by_cases h1 : sOw v i = x
    · rw [if_pos h1]
      by_cases h2 : isW v i
      · rw [if_pos h2, if_neg (show ¬ (1 : Int32) = 0 by decide), if_pos ⟨h2, h1⟩]
      · rw [if_neg h2, if_pos rfl, if_neg (fun q => h2 q.1)]
    · rw [if_neg h1, if_neg (fun q => h1 q.2)]
theorem riches_m {v : SV} {i : Int32} {r : Nat → Int32} (h : RR v i r) {P T : Nat} (w : WF v P T) (x : Int32) : M_X4_richesOf r x = some (sumF (rcS v x) T) := by
  have hT := w.2.1
  unfold M_X4_richesOf
  refine sumL (fun _ _ => none) (B_X4_richesOf_4 x r) _ T some (by omega) (fun f acc => ?_) (fun f acc i hi => ?_)
  · unfold B_X4_richesOf_4
    rw [h.th, w.2.2.2.1, if_pos (Int32.le_refl _)]
  · unfold B_X4_richesOf_4 rcS
    simp only [ofT_nI, b1s, ad1, ad2]
    rw [h.th, w.2.2.2.1, if_le (by omega) (by omega), if_neg (by omega), isWhole_m r (by omega), h.br (by omega), b1s, chk_nI (by omega) (by omega), chk_nI (by omega) (by omega), nI_clamp (by omega), nI_clamp (by omega), h.ow (by omega), h.fi (by omega)]
    by_cases h2 : sBr v i = -9
    · rw [if_pos h2, if_neg (show ¬ (1 : Int32) = 0 by decide)]
      by_cases h1 : sOw v i = x
      · rw [if_pos h1, if_pos ⟨h2, h1⟩]
      · rw [if_neg h1, if_neg (fun q => h1 q.2)]
    · rw [if_neg h2, if_pos rfl, if_neg (fun q => h2 q.1)]
theorem eq_arranged {no : SV} {ss rf re : Nat → Int32} (h : ST no ss) (q : RF rf re) (a : Int32) : ∃ r rf' re', M_X3_arranged no rf a = some (r, rf') ∧ M_X4_arranged ss re a = some (r, re') ∧ RF rf' re' := by
  obtain ⟨P, T, d, w, hd, hd2, hr⟩ := id h
  have hP := w.1
  have hT := w.2.1
  unfold M_X3_arranged M_X4_arranged
  rw [isIn_m]
  by_cases h0 : a = 0
  · subst h0
    obtain ⟨x, e1, e2⟩ := twos_eq hr w
    rw [if_pos rfl, if_neg (show ¬ (0 : Int32) < 0 by decide), if_neg (show ¬ (2 : Int32) < 0 by decide), b1s, if_neg (show ¬ (1 : Int32) = 0 by decide), if_pos rfl, e1, e2, b1s, b1s]
    exact ⟨_, _, _, rfl, rfl, q⟩
  by_cases h1 : a = 1
  · subst h1
    rw [if_neg h0, if_pos rfl, if_neg (show ¬ (1 : Int32) < 0 by decide), if_neg (show ¬ (2 : Int32) < 1 by decide), b1s, if_neg (show ¬ (1 : Int32) = 0 by decide), if_neg h0, if_pos rfl]
    unfold M_X3_guilty
    have key := fuelP2 (fun _ _ _ => none) (B_X3_guilty_7 no) (fun _ _ _ => none) (B_X4_arranged_42 1 ss re) (fun n f g => ∀ (i : Nat) (x y : Int32), i ≤ P → P - i < n → ∃ o, f x y (nI i) = some o ∧ g x y (nI i) = some (o, re)) (fun i x y _ h => absurd h (Nat.not_lt_zero _)) (fun k f g hf i x y hi hk => by
      unfold B_X3_guilty_7 B_X4_arranged_42
      rw [hr.pe, w.2.2.1, if_le (by omega) (by omega), if_le (by omega) (by omega)]
      by_cases hh : P ≤ i
      · rw [if_pos hh, if_pos hh]; exact ⟨x, rfl, rfl⟩
      · rw [if_neg hh, if_neg hh, brokenBy_c w, brokenBy_m hr w, b1s, b1s, b1s, if_pos rfl, ad1]
        by_cases hv : sumF (fun t => if sBr no t = nI i then 1 else 0) T ≤ y
        · rw [if_pos hv, if_neg (Int32.not_lt.mpr hv)]; exact hf (i + 1) _ _ (by omega) (by omega)
        · rw [if_neg hv, if_pos (Int32.not_le.mp hv)]; exact hf (i + 1) _ _ (by omega) (by omega)) FU
    obtain ⟨o, e1, e2⟩ := key 0 (-9) 0 (Nat.zero_le _) (by rw [FU_eq]; omega)
    refine ⟨o, rf, re, ?_, e2, q⟩
    rw [show fuel (fun _ _ _ => none) (B_X3_guilty_7 no) FU (-9) 0 0 = some o from e1]
    rfl
  by_cases h2 : a = 2
  · subst h2
    rw [if_neg h0, if_neg h1, if_pos rfl, if_neg (show ¬ (2 : Int32) < 0 by decide), if_neg (show ¬ (2 : Int32) < 2 by decide), b1s, if_neg (show ¬ (1 : Int32) = 0 by decide), if_neg h0, if_neg h1]
    unfold M_X3_richest
    have key := fuelP2 (fun _ _ _ => none) (B_X3_richest_7 no) (fun _ _ _ => none) (B_X4_arranged_42 2 ss re) (fun n f g => ∀ (i : Nat) (x y : Int32), i ≤ P → P - i < n → ∃ o, f x y (nI i) = some o ∧ g x y (nI i) = some (o, re)) (fun i x y _ h => absurd h (Nat.not_lt_zero _)) (fun k f g hf i x y hi hk => by
      unfold B_X3_richest_7 B_X4_arranged_42
      rw [hr.pe, w.2.2.1, if_le (by omega) (by omega), if_le (by omega) (by omega)]
      by_cases hh : P ≤ i
      · rw [if_pos hh, if_pos hh]; exact ⟨x, rfl, rfl⟩
      · rw [if_neg hh, if_neg hh, riches_c w, riches_m hr w, b1s, b1s, b1s, if_neg (show ¬ (2 : Int32) = 1 by decide), ad1]
        by_cases hv : sumF (rcS no (nI i)) T ≤ y
        · rw [if_pos hv, if_neg (Int32.not_lt.mpr hv)]; exact hf (i + 1) _ _ (by omega) (by omega)
        · rw [if_neg hv, if_pos (Int32.not_le.mp hv)]; exact hf (i + 1) _ _ (by omega) (by omega)) FU
    obtain ⟨o, e1, e2⟩ := key 0 (-9) (-1) (Nat.zero_le _) (by rw [FU_eq]; omega)
    refine ⟨o, rf, re, ?_, e2, q⟩
    rw [show fuel (fun _ _ _ => none) (B_X3_richest_7 no) FU (-9) (-1) 0 = some o from e1]
    rfl
  have i0 := fx_toInt_ne h0
  have i1 := fx_toInt_ne h1
  have i2 := fx_toInt_ne h2
  rw [show (0 : Int32).toInt = 0 from rfl] at i0
  rw [show (1 : Int32).toInt = 1 from rfl] at i1
  rw [show (2 : Int32).toInt = 2 from rfl] at i2
  have e0 : (if a < 0 then (0 : Int32) else if (2 : Int32) < a then 0 else 1) = 0 := by
    by_cases x : a < 0
    · rw [if_pos x]
    · rw [if_neg x, if_pos]
      rw [Int32.lt_iff_toInt_lt, show (0 : Int32).toInt = 0 from rfl] at x
      rw [Int32.lt_iff_toInt_lt, show (2 : Int32).toInt = 2 from rfl]
      omega
  rw [if_neg h0, if_neg h1, if_neg h2, e0, b1s, if_pos rfl]
  obtain ⟨rf', re', e1, e2, q'⟩ := refu q (c := -2) (by decide)
  rw [e1, e2, b2s, b2s]
  exact ⟨_, _, _, rfl, rfl, q'⟩
