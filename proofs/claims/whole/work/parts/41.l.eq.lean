/-! ### together -/
def mxl (f : Nat → Nat) (q : Nat → Prop) [DecidablePred q] (a : Nat) : Nat → Nat
  | 0 => a
  | j + 1 => if q j then max (mxl f q a j) (f j) else mxl f q a j
theorem mxl_ge {f : Nat → Nat} {q : Nat → Prop} [DecidablePred q] {a : Nat} : ∀ n, a ≤ mxl f q a n ∧ (∀ p, p < n → q p → f p ≤ mxl f q a n) ∧ (mxl f q a n = a ∨ ∃ p, p < n ∧ q p ∧ mxl f q a n = f p)
  | 0 => ⟨Nat.le_refl _, fun p h => absurd h (Nat.not_lt_zero _), Or.inl rfl⟩
  | n + 1 => by
    obtain ⟨h1, h2, h3⟩ := mxl_ge (f := f) (q := q) (a := a) n
    unfold mxl
    by_cases hq : q n
    · rw [if_pos hq]
      refine ⟨by omega, fun p hp hqp => ?_, ?_⟩
      · by_cases e : p = n
        · subst e; omega
        · have := h2 p (by omega) hqp; omega
      · rcases Nat.le_total (mxl f q a n) (f n) with l | l
        · exact Or.inr ⟨n, by omega, hq, Nat.max_eq_right l⟩
        · rw [Nat.max_eq_left l]
          rcases h3 with e | ⟨p, hp, hqp, e⟩
          · exact Or.inl e
          · exact Or.inr ⟨p, by omega, hqp, e⟩
    · rw [if_neg hq]
      refine ⟨h1, fun p hp hqp => ?_, ?_⟩
      · by_cases e : p = n
        · subst e; exact absurd hqp hq
        · exact h2 p (by omega) hqp
      · rcases h3 with e | ⟨p, hp, hqp, e⟩
        · exact Or.inl e
        · exact Or.inr ⟨p, by omega, hqp, e⟩
/-- who is free for it -/
abbrev frS (v : SV) (t b p : Nat) : Prop := b.testBit p = false ∧ mmS v p t
/-- the most of the last k of T -/
def mxF (v : SV) (P T : Nat) : Nat → Nat → Nat
  | 0, _ => 0
  | k + 1, b => mxl (fun p => 1 + mxF v P T k (b ||| 2 ^ p)) (frS v (T - (k + 1)) b) (mxF v P T k b) P
theorem mxF_s (v : SV) (P T k b : Nat) : mxF v P T (k + 1) b = mxl (fun p => 1 + mxF v P T k (b ||| 2 ^ p)) (frS v (T - (k + 1)) b) (mxF v P T k b) P := rfl
theorem mxF_le (v : SV) (P T : Nat) : ∀ k b, mxF v P T k b ≤ k
  | 0, _ => Nat.le_refl _
  | k + 1, b => by
    rw [mxF_s]
    have h := mxF_le v P T k b
    rcases (mxl_ge (f := fun p => 1 + mxF v P T k (b ||| 2 ^ p)) (q := frS v (T - (k + 1)) b) (a := mxF v P T k b) P).2.2 with e | ⟨p, -, -, e⟩
    · rw [e]; omega
    · rw [e]; have := mxF_le v P T k (b ||| 2 ^ p); omega
/-- the mender by the first such -/
def gcF (v : SV) (P T k b : Nat) : Option Nat := fnd (fun p => frS v (T - (k + 1)) b p ∧ 1 + mxF v P T k (b ||| 2 ^ p) = mxF v P T (k + 1) b) P 0
def bzF (v : SV) (P T k b : Nat) : Nat := match gcF v P T k b with
  | none => b
  | some p => b ||| 2 ^ p
def gsF (v : SV) (P T : Nat) : Nat → Nat → Nat → Int32
  | 0, _, _ => -9
  | k + 1, b, i => if i = T - (k + 1) then oI (gcF v P T k b) else gsF v P T k (bzF v P T k b) i
theorem gsF_s (v : SV) (P T k b i : Nat) : gsF v P T (k + 1) b i = if i = T - (k + 1) then oI (gcF v P T k b) else gsF v P T k (bzF v P T k b) i := rfl
theorem orb : ∀ n, n < 64 → ∀ k, k < 6 → (nI n ||| ((1 : Int32) <<< (nI k &&& 31))) = nI (n ||| 2 ^ k) ∧ n ||| 2 ^ k < 64 := by decide +kernel
/-! the class' table -/
theorem free_c {v : SV} {P T : Nat} (w : WF v P T) {t b p : Nat} (ht : t < T) (hb : b < 64) (hp : p < P) : M_X1_isFree v (nI p) (nI b) (nI t) = some (if frS v t b p then 1 else 0) := by
  have hP := w.1
  unfold M_X1_isFree
  rw [may_c w hp ht, b1s]
  by_cases h1 : b.testBit p = false
  · rw [if_pos ((bt0 b hb p (by omega)).mpr h1)]
    by_cases h2 : mmS v p t
    · rw [if_pos h2, if_neg (show ¬ (1 : Int32) = 0 by decide), if_pos ⟨h1, h2⟩]
    · rw [if_neg h2, if_pos rfl, if_neg (fun q => h2 q.2)]
  · rw [if_neg (fun x => h1 ((bt0 b hb p (by omega)).mp x)), if_neg (fun q => h1 q.1)]
def TB (v : SV) (P T t : Nat) (be : Nat → Int32) : Prop := ∀ u, t ≤ u → u ≤ T → ∀ b, b < 64 → be (u * 64 + b) = nI (mxF v P T (T - u) b)
theorem ixT (t b : Nat) : nI t * (64 : Int32) + nI b = nI (t * 64 + b) := by
  rw [show (64 : Int32) = nI 64 from rfl, pk_mul, nI_add]
theorem mostFrom_c {v : SV} {P T : Nat} (w : WF v P T) {t b : Nat} {be : Nat → Int32} (hB : TB v P T (t + 1) be) (ht : t < T) (hb : b < 64) : M_X1_mostFrom be v (nI t) (nI b) = some (nI (mxF v P T (T - t) b)) := by
  have hP := w.1
  have hT := w.2.1
  have ek : T - t = (T - (t + 1)) + 1 := by omega
  have et : T - ((T - (t + 1)) + 1) = t := by omega
  unfold M_X1_mostFrom
  rw [ad1, ixT, chk_nI (by omega) (by omega), nI_clamp (by omega), hB (t + 1) (Nat.le_refl _) (by omega) b hb, ek, mxF_s, et]
  refine fuelP (fun _ _ => none) (B_X1_mostFrom_18 (nI t) (nI b) be v) (fun n f => ∀ i, i ≤ P → P - i < n → f (nI (mxl (fun p => 1 + mxF v P T (T - (t + 1)) (b ||| 2 ^ p)) (frS v t b) (mxF v P T (T - (t + 1)) b) i)) (nI i) = some (nI (mxl (fun p => 1 + mxF v P T (T - (t + 1)) (b ||| 2 ^ p)) (frS v t b) (mxF v P T (T - (t + 1)) b) P))) (fun i _ h => absurd h (Nat.not_lt_zero _)) (fun n f hf i hi hn => ?_) FU 0 (Nat.zero_le _) (by rw [FU_eq]; omega)
  unfold B_X1_mostFrom_18
  rw [w.2.2.1, if_le (by omega) (by omega)]
  by_cases hh : P ≤ i
  · rw [if_pos hh, show i = P by omega]
  · obtain ⟨o1, o2⟩ := orb b hb i (by omega)
    rw [if_neg hh, free_c w ht hb (by omega), b1s, o1, ad1, ad1, ixT, ← hf (i + 1) (by omega) (by omega)]
    have e : mxl (fun p => 1 + mxF v P T (T - (t + 1)) (b ||| 2 ^ p)) (frS v t b) (mxF v P T (T - (t + 1)) b) (i + 1) = if frS v t b i then max (mxl (fun p => 1 + mxF v P T (T - (t + 1)) (b ||| 2 ^ p)) (frS v t b) (mxF v P T (T - (t + 1)) b) i) (1 + mxF v P T (T - (t + 1)) (b ||| 2 ^ i)) else mxl (fun p => 1 + mxF v P T (T - (t + 1)) (b ||| 2 ^ p)) (frS v t b) (mxF v P T (T - (t + 1)) b) i := rfl
    rw [e]
    have l1 : mxl (fun p => 1 + mxF v P T (T - (t + 1)) (b ||| 2 ^ p)) (frS v t b) (mxF v P T (T - (t + 1)) b) i ≤ 10 := by
      rcases (mxl_ge (f := fun p => 1 + mxF v P T (T - (t + 1)) (b ||| 2 ^ p)) (q := frS v t b) (a := mxF v P T (T - (t + 1)) b) i).2.2 with e | ⟨p, -, -, e⟩
      · rw [e]; have := mxF_le v P T (T - (t + 1)) b; omega
      · rw [e]; have := mxF_le v P T (T - (t + 1)) (b ||| 2 ^ p); omega
    have l2 := mxF_le v P T (T - (t + 1)) (b ||| 2 ^ i)
    by_cases hq : frS v t b i
    · rw [if_pos hq, if_neg (show ¬ (1 : Int32) = 0 by decide), if_pos hq, chk_nI (by omega) (by omega), nI_clamp (by omega), hB (t + 1) (Nat.le_refl _) (by omega) _ o2, show (1 : Int32) = nI 1 from rfl, nI_add, if_lt (by omega) (by omega)]
      by_cases hm : mxl (fun p => 1 + mxF v P T (T - (t + 1)) (b ||| 2 ^ p)) (frS v t b) (mxF v P T (T - (t + 1)) b) i < 1 + mxF v P T (T - (t + 1)) (b ||| 2 ^ i)
      · rw [if_pos hm, Nat.max_eq_right (by omega)]
      · rw [if_neg hm, Nat.max_eq_left (by omega)]
    · rw [if_neg hq, if_pos rfl, if_neg hq]
theorem tm0 : ∀ j, j < 10 → (nI (j + 1) - (1 : Int32)) = nI j ∧ (nI j + (-1 : Int32)) = nI j - 1 := by decide +kernel
theorem fillRow_c {v : SV} {P T : Nat} (w : WF v P T) {t : Nat} (ht : t < T) {be : Nat → Int32} (hB : TB v P T (t + 1) be) (K : (Nat → Int32) → Option (Nat → Int32)) : ∃ be', TB v P T t be' ∧ fuel (fun _ _ => none) (B_X1_fill_42 (nI t) v K) FU 0 be = K be' := by
  have hT := w.2.1
  refine fuelP (fun _ _ => none) (B_X1_fill_42 (nI t) v K) (fun n f => ∀ (i : Nat) (be : Nat → Int32), i ≤ 64 → 64 - i < n → TB v P T (t + 1) be → (∀ b, b < i → be (t * 64 + b) = nI (mxF v P T (T - t) b)) → ∃ be', TB v P T t be' ∧ f (nI i) be = K be') (fun i _ _ h => absurd h (Nat.not_lt_zero _)) (fun n f hf i be hi hn hB hr => ?_) FU 0 be (Nat.zero_le _) (by rw [FU_eq]; omega) hB (fun b h => absurd h (Nat.not_lt_zero _))
  unfold B_X1_fill_42
  rw [show (64 : Int32) = nI 64 from rfl, if_le (by omega) (by omega)]
  by_cases hh : 64 ≤ i
  · rw [if_pos hh]
    refine ⟨be, fun u h1 h2 b hb => ?_, rfl⟩
    by_cases e : u = t
    · subst e; exact hr b (by omega)
    · exact hB u (by omega) h2 b hb
  · rw [if_neg hh, mostFrom_c w hB ht (by omega), b1s, pk_mul, nI_add, chk_nI (by omega) (by omega), nI_clamp (by omega), ad1]
    refine hf (i + 1) _ (by omega) (by omega) (fun u h1 h2 b hb => ?_) (fun b hb => ?_)
    · rw [up_n (by omega)]; exact hB u h1 h2 b hb
    · by_cases e : b = i
      · subst e; rw [up_s]
      · rw [up_n (by omega)]; exact hr b (by omega)
theorem fill_c {v : SV} {P T : Nat} (w : WF v P T) (be : Nat → Int32) : ∃ be', TB v P T 0 be' ∧ M_X1_fill be v = some be' := by
  have hT := w.2.1
  have rows : ∀ be, TB v P T T be → ∃ be', TB v P T 0 be' ∧ fuel (fun _ _ => none) (B_X1_fill_36 v) FU (nI T - 1) be = some be' := by
    intro be hB
    refine fuelP (fun _ _ => none) (B_X1_fill_36 v) (fun n f => ∀ (i : Nat) (be : Nat → Int32), i ≤ T → i < n → TB v P T i be → ∃ be', TB v P T 0 be' ∧ f (nI i - 1) be = some be') (fun i _ _ h => absurd h (Nat.not_lt_zero _)) (fun n f hf i be hi hn hB => ?_) FU T be (Nat.le_refl _) (by rw [FU_eq]; omega) hB
    unfold B_X1_fill_36
    cases i with
    | zero =>
      rw [if_pos (show nI 0 - 1 < 0 by decide)]
      exact ⟨be, hB, rfl⟩
    | succ j =>
      obtain ⟨e1, e2⟩ := tm0 j (by omega)
      rw [e1, if_neg (nI_pos (show j < 2 ^ 31 by omega)), e2]
      obtain ⟨be1, hB1, e⟩ := fillRow_c w (show j < T by omega) hB (fun be => f (nI j - 1) be)
      rw [e]
      exact hf j be1 (by omega) (by omega) hB1
  unfold M_X1_fill
  refine fuelP (fun _ _ => none) (B_X1_fill_2 v) (fun n f => ∀ (i : Nat) (be : Nat → Int32), i ≤ 64 → 64 - i < n → (∀ b, b < i → be (T * 64 + b) = nI 0) → ∃ be', TB v P T 0 be' ∧ f (nI i) be = some be') (fun i _ _ h => absurd h (Nat.not_lt_zero _)) (fun n f hf i be hi hn hr => ?_) FU 0 be (Nat.zero_le _) (by rw [FU_eq]; omega) (fun b h => absurd h (Nat.not_lt_zero _))
  unfold B_X1_fill_2
  rw [w.2.2.2.1, show (64 : Int32) = nI 64 from rfl, if_le (by omega) (by omega)]
  by_cases hh : 64 ≤ i
  · rw [if_pos hh]
    refine rows be (fun u h1 h2 b hb => ?_)
    have e : u = T := by omega
    subst e
    rw [Nat.sub_self]
    exact hr b (by omega)
  · rw [if_neg hh, pk_mul, nI_add, chk_nI (by omega) (by omega), nI_clamp (by omega), ad1]
    refine hf (i + 1) _ (by omega) (by omega) (fun b hb => ?_)
    by_cases e : b = i
    · subst e; rw [up_s]; rfl
    · rw [up_n (by omega)]; exact hr b (by omega)
theorem leastMender_c {v : SV} {P T : Nat} (w : WF v P T) {t b : Nat} {be : Nat → Int32} (hB : TB v P T 0 be) (ht : t < T) (hb : b < 64) : M_X1_leastMender be v (nI t) (nI b) = some (oI (gcF v P T (T - (t + 1)) b)) := by
  have hP := w.1
  have hT := w.2.1
  have ek : T - t = (T - (t + 1)) + 1 := by omega
  have et : T - ((T - (t + 1)) + 1) = t := by omega
  have e : M_X1_leastMender be v (nI t) (nI b) = (match gcF v P T (T - (t + 1)) b with | none => some (-9) | some p => some (nI p)) := by
    unfold M_X1_leastMender gcF
    rw [ixT, chk_nI (by omega) (by omega), nI_clamp (by omega), hB t (Nat.zero_le _) (by omega) b hb, ek, et]
    refine findL (fun _ => none) (B_X1_leastMender_16 (nI t) (nI b) (nI (mxF v P T (T - (t + 1) + 1) b)) be v) _ P (some (-9)) (fun p => some (nI p)) (by omega) (fun f => ?_) (fun f i hi => ?_)
    · unfold B_X1_leastMender_16
      rw [w.2.2.1, if_pos (Int32.le_refl _)]
    · unfold B_X1_leastMender_16
      obtain ⟨o1, o2⟩ := orb b hb i (by omega)
      have l2 := mxF_le v P T (T - (t + 1)) (b ||| 2 ^ i)
      have l3 := mxF_le v P T (T - (t + 1) + 1) b
      rw [w.2.2.1, if_le (by omega) (by omega), if_neg (show ¬ P ≤ i by omega), free_c w ht hb hi, b1s, o1, ad1, ad1, ixT, chk_nI (by omega) (by omega), nI_clamp (by omega), hB (t + 1) (Nat.zero_le _) (by omega) _ o2, show (1 : Int32) + nI (mxF v P T (T - (t + 1)) (b ||| 2 ^ i)) = nI (1 + mxF v P T (T - (t + 1)) (b ||| 2 ^ i)) from nI_add 1 _, if_eq (by omega) (by omega)]
      by_cases hq : frS v t b i
      · rw [if_pos hq, if_neg (show ¬ (1 : Int32) = 0 by decide)]
        by_cases hm : 1 + mxF v P T (T - (t + 1)) (b ||| 2 ^ i) = mxF v P T (T - (t + 1) + 1) b
        · rw [if_pos hm, if_pos ⟨hq, hm⟩]
        · rw [if_neg hm, if_neg (fun q => hm q.2)]
      · rw [if_neg hq, if_pos rfl, if_neg (fun q => hq q.1)]
  rw [e]
  cases gcF v P T (T - (t + 1)) b <;> rfl
theorem menderOf_c {v : SV} {P T : Nat} (w : WF v P T) {t : Nat} {be : Nat → Int32} (hB : TB v P T 0 be) (ht : t < T) : M_X1_menderOf be v (nI t) = some (gsF v P T T 0 t) := by
  have hP := w.1
  have hT := w.2.1
  have key := fuelP (fun _ _ _ => none) (B_X1_menderOf_9 (nI t) be v) (fun n f => (∀ x y, 0 < n → f x y (nI (t + 1)) = some y) ∧ ∀ (i b : Nat) (y : Int32), i ≤ t → b < 64 → t + 1 - i < n → gsF v P T (T - i) b t = gsF v P T T 0 t → f (nI b) y (nI i) = some (gsF v P T T 0 t)) ⟨fun x y h => absurd h (Nat.not_lt_zero _), fun i b y _ _ h => absurd h (Nat.not_lt_zero _)⟩ (fun n f hf => ⟨fun x y hn => by
    unfold B_X1_menderOf_9
    rw [if_lt (by omega) (by omega), if_pos (show t < t + 1 by omega)], fun i b y hi hb hn hg => by
    unfold B_X1_menderOf_9
    rw [if_lt (by omega) (by omega), if_neg (show ¬ t < i by omega), leastMender_c w hB (by omega) hb, b1s, ad1, or_zero]
    rw [show T - i = (T - (i + 1)) + 1 by omega, gsF_s, show T - (T - (i + 1) + 1) = i by omega] at hg
    by_cases e : t = i
    · rw [if_pos e] at hg
      rw [hg, ← e, hf.1 _ _ (by omega), hf.1 _ _ (by omega), ite_self]
    · rw [if_neg e] at hg
      unfold bzF at hg
      rcases oI_cases (gcF v P T (T - (i + 1)) b) (n := 6) (fun k hk => by have := (fnd_some hk).2.1; omega) with ⟨eo, en⟩ | ⟨c, hc, eo, en⟩
      · rw [en] at hg
        rw [eo, if_pos rfl]
        exact hf.2 (i + 1) b _ (by omega) hb (by omega) hg
      · rw [en] at hg
        obtain ⟨o1, o2⟩ := orb b hb c hc
        have hc9 : ¬ nI c = -9 := fun e => absurd (show (-9 : Int32) < 0 by decide) (by rw [← e]; exact nI_pos (by omega))
        rw [eo, if_neg hc9, o1]
        exact hf.2 (i + 1) _ _ (by omega) o2 (by omega) hg⟩) FU
  unfold M_X1_menderOf
  exact key.2 0 0 (-9) (Nat.zero_le _) (by omega) (by rw [FU_eq]; omega) rfl
