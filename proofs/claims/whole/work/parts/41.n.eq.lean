/-! ### the lane: letters -/
def koI (c : Int32) : Int32 := if c = 99 then 1 else if c = 103 then 2 else if c = 107 then 4 else if c = 108 then 5 else if c = 116 then 0 else if c = 119 then 3 else -9
def pbN (c : Int32) : Nat := if c = 98 then 2 else if c = 100 then 2 else if c = 110 then 1 else if c = 112 then 1 else if c = 115 then 2 else if c = 116 then 3 else if c = 119 then 2 else 0
theorem kindOf_c (c : Int32) : M_X0_kindOf c = some (koI c) := by
  unfold M_X0_kindOf koI
  repeat' split
  all_goals rfl
theorem kindBy_m (c : Int32) : M_X4_kindBy c = some (koI c) := by
  unfold M_X4_kindBy koI
  repeat' split
  all_goals rfl
theorem parts_c (c : Int32) : M_X0_partsBehind c = some (nI (pbN c)) := by
  unfold M_X0_partsBehind pbN
  repeat' split
  all_goals rfl
theorem pbN_le (c : Int32) : pbN c ≤ 3 := by
  unfold pbN
  repeat' split
  all_goals omega
theorem koI_cases (c : Int32) : koI c = -9 ∨ ∃ k : Nat, k < 6 ∧ koI c = nI k := by
  unfold koI
  split
  · exact Or.inr ⟨1, by omega, rfl⟩
  split
  · exact Or.inr ⟨2, by omega, rfl⟩
  split
  · exact Or.inr ⟨4, by omega, rfl⟩
  split
  · exact Or.inr ⟨5, by omega, rfl⟩
  split
  · exact Or.inr ⟨0, by omega, rfl⟩
  split
  · exact Or.inr ⟨3, by omega, rfl⟩
  · exact Or.inl rfl
abbrev dgP (sg : Nat → Int32) (n i : Nat) : Prop := i < n ∧ ¬ sg i < 48 ∧ ¬ (57 : Int32) < sg i
abbrev scP (sg : Nat → Int32) (n i : Nat) : Prop := i < n ∧ sg i = 59
abbrev kdP (sg : Nat → Int32) (n i : Nat) : Prop := i < n ∧ ¬ koI (sg i) = -9
abbrev okP (sg : Nat → Int32) (n at_ p j : Nat) : Prop := (¬ j ≤ p ∧ scP sg n (at_ + j)) ∨ (j ≤ p ∧ j = 1 ∧ sg at_ = 116 ∧ kdP sg n (at_ + j)) ∨ (j ≤ p ∧ ¬ (j = 1 ∧ sg at_ = 116) ∧ dgP sg n (at_ + j))
theorem ok_sc {sg : Nat → Int32} {n at_ p j : Nat} (h : ¬ j ≤ p) : okP sg n at_ p j ↔ scP sg n (at_ + j) := by
  unfold okP
  constructor
  · rintro (x | x | x)
    · exact x.2
    · exact absurd x.1 h
    · exact absurd x.1 h
  · intro x
    exact Or.inl ⟨h, x⟩
theorem ok_kd {sg : Nat → Int32} {n at_ p : Nat} (h : 1 ≤ p) (h2 : sg at_ = 116) : okP sg n at_ p 1 ↔ kdP sg n (at_ + 1) := by
  unfold okP
  constructor
  · rintro (x | x | x)
    · exact absurd h x.1
    · exact x.2.2.2
    · exact absurd ⟨rfl, h2⟩ x.2.1
  · intro x
    exact Or.inr (Or.inl ⟨h, rfl, h2, x⟩)
theorem ok_dg {sg : Nat → Int32} {n at_ p j : Nat} (h : j ≤ p) (h2 : ¬ (j = 1 ∧ sg at_ = 116)) : okP sg n at_ p j ↔ dgP sg n (at_ + j) := by
  unfold okP
  constructor
  · rintro (x | x | x)
    · exact absurd h x.1
    · exact absurd ⟨x.2.1, x.2.2.1⟩ h2
    · exact x.2.2
  · intro x
    exact Or.inr (Or.inr ⟨h, h2, x⟩)
theorem ok_lt {sg : Nat → Int32} {n at_ p j : Nat} (h : okP sg n at_ p j) : at_ + j < n := by
  rcases h with x | x | x
  · exact x.2.1
  · exact x.2.2.2.1
  · exact x.2.2.1
/-- the place of a fault in the statement at a place -/
def stF (sg : Nat → Int32) (n at_ : Nat) : Option Nat := if pbN (sg at_) = 0 then some at_ else match fnd (fun j => ¬ okP sg n at_ (pbN (sg at_)) j) (pbN (sg at_) + 1) 1 with
  | none => none
  | some j => some (at_ + j)
theorem sign_c {sg : Nat → Int32} {n i : Nat} (hn : n ≤ 96) (hi : i < 200) : M_X0_sign sg (nI n) (nI i) = some (if i < n then sg i else 0) := by
  unfold M_X0_sign
  rw [if_neg (nI_pos (show i < 2 ^ 31 by omega)), if_le (by omega) (by omega)]
  by_cases h : i < n
  · rw [if_neg (by omega), if_pos h, chk_nI (by omega) (by omega), nI_clamp (by omega)]
  · rw [if_pos (by omega), if_neg h]
theorem fits_c {sg : Nat → Int32} {n at_ p j : Nat} (hn : n ≤ 96) (hj : at_ + j < n) (h1 : 1 ≤ j) (hp : p ≤ 3) : M_X0_fits sg (nI n) (nI at_) (nI j) (nI p) = some (if okP sg n at_ p j then 1 else 0) := by
  unfold M_X0_fits
  rw [nI_add, sign_c hn (by omega), sign_c hn (by omega), b1s, b1s, if_pos hj, if_pos (show at_ < n by omega), kindOf_c, b1s, if_le (by omega) (by omega), show (1 : Int32) = nI 1 from rfl, if_eq (by omega) (by omega)]
  have dg : ∀ (h : j ≤ p), ¬ (j = 1 ∧ sg at_ = 116) → (if sg (at_ + j) < 48 then some (0 : Int32) else if (57 : Int32) < sg (at_ + j) then some 0 else some (nI 1)) = some (if okP sg n at_ p j then nI 1 else 0) := fun h h2 => by
    by_cases a : sg (at_ + j) < 48
    · rw [if_pos a, if_neg (fun x => ((ok_dg h h2).mp x).2.1 a)]
    · rw [if_neg a]
      by_cases b : (57 : Int32) < sg (at_ + j)
      · rw [if_pos b, if_neg (fun x => ((ok_dg h h2).mp x).2.2 b)]
      · rw [if_neg b, if_pos ((ok_dg h h2).mpr ⟨hj, a, b⟩)]
  by_cases h : j ≤ p
  · rw [if_pos h]
    by_cases hj1 : j = 1
    · rw [if_pos hj1]
      subst hj1
      by_cases hk : sg at_ = 116
      · rw [if_pos hk]
        by_cases hk2 : koI (sg (at_ + 1)) = -9
        · rw [if_pos hk2, if_neg (fun x => ((ok_kd h hk).mp x).2 hk2)]
        · rw [if_neg hk2, if_pos ((ok_kd h hk).mpr ⟨hj, hk2⟩)]
      · rw [if_neg hk]
        exact dg h (fun x => hk x.2)
    · rw [if_neg hj1]
      exact dg h (fun x => hj1 x.1)
  · rw [if_neg h]
    by_cases hs : sg (at_ + j) = 59
    · rw [if_pos hs, if_pos ((ok_sc h).mpr ⟨hj, hs⟩)]
    · rw [if_neg hs, if_neg (fun x => hs ((ok_sc h).mp x).2)]
theorem inner_c {sg : Nat → Int32} {n at_ p : Nat} (hn : n ≤ 96) (ha : at_ < n) (hp : p ≤ 3) (k78 : Unit → Option Int32) : fuel (fun _ => none) (B_X0_formFault_36 (nI at_) (nI p) sg (nI n) k78 (fun (_ : Unit) => some (nI n)) (fun x3 => some (nI at_ + x3))) FU 1 = (match fnd (fun j => ¬ okP sg n at_ p j) (p + 1) 1 with | none => k78 () | some j => some (nI (at_ + j))) := by
  refine fuelP (fun _ => none) (B_X0_formFault_36 (nI at_) (nI p) sg (nI n) k78 (fun (_ : Unit) => some (nI n)) (fun x3 => some (nI at_ + x3))) (fun m f => ∀ j, 1 ≤ j → j ≤ p + 2 → at_ + j ≤ n + 1 → at_ + (j - 1) < n → p + 2 - j < m → f (nI j) = (match fnd (fun j => ¬ okP sg n at_ p j) (p + 2 - j) j with | none => k78 () | some j => some (nI (at_ + j)))) (fun j _ _ _ _ h => absurd h (Nat.not_lt_zero _)) (fun m f hf j h1 hj hjn hjn2 hm => ?_) FU 1 (Nat.le_refl _) (by omega) (by omega) (by omega) (by rw [FU_eq]; omega)
  unfold B_X0_formFault_36
  rw [ad1, nI_add, if_lt (by omega) (by omega), if_lt (by omega) (by omega)]
  by_cases h : p + 1 < j
  · rw [if_pos h, show p + 2 - j = 0 by omega]; rfl
  · rw [if_neg h, show p + 2 - j = (p + 2 - (j + 1)) + 1 by omega]
    unfold fnd
    by_cases hb : at_ + j < n
    · rw [if_pos hb, fits_c hn hb h1 hp, b1s, ad1]
      by_cases ho : okP sg n at_ p j
      · rw [if_pos ho, if_neg (show ¬ (1 : Int32) = 0 by decide), if_neg (fun x => x ho)]
        exact hf (j + 1) (by omega) (by omega) (by omega) (by omega) (by omega)
      · rw [if_neg ho, if_pos rfl, if_pos ho]
        show some (nI at_ + nI j) = some (nI (at_ + j))
        rw [nI_add]
    · rw [if_neg hb, if_pos (fun x => hb (ok_lt x))]
      show some (nI n) = some (nI (at_ + j))
      rw [show at_ + j = n by omega]
/-- the first fault, from a place on -/
def ffF (sg : Nat → Int32) (n : Nat) : Nat → Nat → Option Nat
  | 0, _ => none
  | k + 1, a => if n ≤ a then none else match stF sg n a with
    | some q => some q
    | none => ffF sg n k (a + (pbN (sg a) + 2))
theorem stF_some {sg : Nat → Int32} {n a q : Nat} (h : stF sg n a = some q) (ha : a < n) : q ≤ n := by
  unfold stF at h
  by_cases h0 : pbN (sg a) = 0
  · rw [if_pos h0] at h
    cases h
    omega
  · rw [if_neg h0] at h
    cases hf : fnd (fun j => ¬ okP sg n a (pbN (sg a)) j) (pbN (sg a) + 1) 1 with
    | none => rw [hf] at h; cases h
    | some j =>
      rw [hf] at h
      cases h
      obtain ⟨h1, h2, h3, h4⟩ := fnd_some hf
      by_cases e : j = 1
      · omega
      · have := ok_lt (Classical.not_not.mp (h4 (j - 1) (by omega) (by omega)))
        omega
theorem formFault_c {sg : Nat → Int32} {n : Nat} (hn : n ≤ 96) (h0 : 0 < n) : M_X0_formFault sg (nI n) = some (oI (ffF sg n n 0)) := by
  unfold M_X0_formFault
  rw [if_e0 (by omega), if_neg (by omega)]
  have e : fuel (fun _ => none) (B_X0_formFault_11 sg (nI n)) FU 0 = (match ffF sg n n 0 with | none => some (-9) | some q => some (nI q)) := by
    refine fuelP (fun _ => none) (B_X0_formFault_11 sg (nI n)) (fun m f => ∀ k a, n ≤ a + k → a ≤ n + 100 → k < m → f (nI a) = (match ffF sg n k a with | none => some (-9) | some q => some (nI q))) (fun k a _ _ h => absurd h (Nat.not_lt_zero _)) (fun m f hf k a hk ha hm => ?_) FU n 0 (by omega) (by omega) (by rw [FU_eq]; omega)
    unfold B_X0_formFault_11
    rw [if_le (by omega) (by omega)]
    by_cases hh : n ≤ a
    · rw [if_pos hh]
      cases k with
      | zero => rfl
      | succ k => unfold ffF; rw [if_pos hh]
    · have hp := pbN_le (sg a)
      obtain ⟨k', rfl⟩ : ∃ k', k = k' + 1 := ⟨k - 1, by omega⟩
      rw [if_neg hh, sign_c hn (by omega), b1s, if_pos (show a < n by omega), parts_c, b1s, if_e0 (by omega), inner_c hn (by omega) hp]
      unfold ffF stF
      rw [if_neg hh]
      by_cases hp0 : pbN (sg a) = 0
      · rw [if_pos hp0, if_pos hp0]
      · rw [if_neg hp0, if_neg hp0]
        cases hf2 : fnd (fun j => ¬ okP sg n a (pbN (sg a)) j) (pbN (sg a) + 1) 1 with
        | none =>
          dsimp only
          rw [ad2, nI_add]
          exact hf k' _ (by omega) (by omega) (by omega)
        | some j => rfl
  rw [e]
  cases ffF sg n n 0 <;> rfl
/-! reading in the reference -/
theorem here_m {sg le : Nat → Int32} {n i : Nat} (hn : n ≤ 96) (hl : ∀ i, i < n → sg i = le i) (hi : i < 200) : M_X4_here le (nI n) (nI i) = some (if i < n then sg i else -1) := by
  unfold M_X4_here
  rw [if_le (by omega) (by omega)]
  by_cases h : i < n
  · rw [if_neg (by omega), if_pos h, chk_nI (by omega) (by omega), nI_clamp (by omega), hl i h]
  · rw [if_pos (by omega), if_neg h]
theorem digit_m {sg : Nat → Int32} {n i : Nat} : M_X4_isIn (if i < n then sg i else -1) 48 57 = some (if dgP sg n i then 1 else 0) := by
  rw [isIn_m]
  by_cases h : i < n
  · rw [if_pos h]
    by_cases a : sg i < 48
    · rw [if_pos a, if_neg (fun x => x.2.1 a)]
    · rw [if_neg a]
      by_cases b : (57 : Int32) < sg i
      · rw [if_pos b, if_neg (fun x => x.2.2 b)]
      · rw [if_neg b, if_pos ⟨h, a, b⟩]
  · rw [if_neg h, if_pos (show (-1 : Int32) < 48 by decide), if_neg (fun x => h x.1)]
/-- a digit's number -/
def dN (sg : Nat → Int32) (i : Nat) : Nat := (sg i).toNatClampNeg - 48
theorem dN_of {sg : Nat → Int32} {n i : Nat} (h : dgP sg n i) : sg i - 48 = nI (dN sg i) ∧ dN sg i ≤ 9 ∧ sg i = nI (dN sg i + 48) := by
  obtain ⟨k, h1, h2, e⟩ := rng (a := 48) (b := 57) (by omega) (Int32.not_lt.mp h.2.1) (Int32.not_lt.mp h.2.2) (by omega)
  unfold dN
  rw [e, nI_clamp (by omega)]
  refine ⟨?_, by omega, by rw [show k - 48 + 48 = k by omega]⟩
  have key : ∀ k, k < 58 → 48 ≤ k → (nI k - (48 : Int32)) = nI (k - 48) := by decide +kernel
  exact key k (by omega) h1
theorem rnum0 {sg : Nat → Int32} {n i : Nat} (h : dgP sg n i) (m : Nat) : (10 : Int32) * nI m + sg i - 48 = nI (10 * m + dN sg i) := by
  obtain ⟨h1, h2, h3⟩ := dN_of h
  rw [show (10 : Int32) = nI 10 from rfl, pk_mul, h3, nI_add, ← Nat.add_assoc, ← nI_add (10 * m + dN sg i) 48]
  show nI (10 * m + dN sg i) + 48 - 48 = _
  rw [Int32.add_sub_cancel]
theorem rn1 {sg le : Nat → Int32} {n a x : Nat} (hn : n ≤ 96) (hl : ∀ i, i < n → sg i = le i) (ha : a < 190) (hx : x < 3) (nu : Nat → Int32) : M_X4_readsNumber le (nI n) (nI a) nu (nI x) 1 = if dgP sg n a then some (1, nI (a + 1), upd nu x (nI (dN sg a))) else some (0, nI a, upd nu x 0) := by
  unfold M_X4_readsNumber
  rw [chk_nI (by omega) (by omega), nI_clamp (by omega), show FU = 4998 + 1 + 1 from rfl, fuel_s]
  generalize hg : fuel (fun _ _ _ => none) (B_X4_readsNumber_9 (nI x) 1 le (nI n)) (4998 + 1) = g
  have g1 : ∀ pl nu, g (nI 1) pl nu = some (1, pl, nu) := fun pl nu => by
    rw [← hg, fuel_s]
    unfold B_X4_readsNumber_9
    rw [if_pos (show (1 : Int32) ≤ nI 1 by decide)]
  unfold B_X4_readsNumber_9
  rw [if_neg (show ¬ (1 : Int32) ≤ 0 by decide), here_m hn hl (by omega), b1s, digit_m, b1s]
  by_cases h : dgP sg n a
  · rw [if_pos h, if_neg (show ¬ (1 : Int32) = 0 by decide), chk_nI (by omega) (by omega), b1s, chk_nI (by omega) (by omega), nI_clamp (by omega), up_s, up_u, if_pos h.1, ad1, show (0 : Int32) + 1 = nI 1 from rfl, g1, if_pos h, show (0 : Int32) = nI 0 from rfl, rnum0 h]
    rw [Nat.mul_zero, Nat.zero_add]
  · rw [if_neg h, if_pos rfl, if_neg h]
theorem rn2 {sg le : Nat → Int32} {n a x : Nat} (hn : n ≤ 96) (hl : ∀ i, i < n → sg i = le i) (ha : a < 190) (hx : x < 3) (nu : Nat → Int32) : M_X4_readsNumber le (nI n) (nI a) nu (nI x) 2 = if dgP sg n a then (if dgP sg n (a + 1) then some (1, nI (a + 2), upd nu x (nI (10 * dN sg a + dN sg (a + 1)))) else some (0, nI (a + 1), upd nu x (nI (dN sg a)))) else some (0, nI a, upd nu x 0) := by
  unfold M_X4_readsNumber
  rw [chk_nI (by omega) (by omega), nI_clamp (by omega), show FU = 4997 + 1 + 1 + 1 from rfl, fuel_s]
  generalize hg : fuel (fun _ _ _ => none) (B_X4_readsNumber_9 (nI x) 2 le (nI n)) (4997 + 1 + 1) = g
  have g1 : ∀ nu, g (nI 1) (nI (a + 1)) nu = if dgP sg n (a + 1) then some (1, nI (a + 2), upd nu x ((10 : Int32) * nu x + sg (a + 1) - 48)) else some (0, nI (a + 1), nu) := fun nu => by
    rw [← hg, fuel_s]
    generalize hg2 : fuel (fun _ _ _ => none) (B_X4_readsNumber_9 (nI x) 2 le (nI n)) (4997 + 1) = g2
    have g2s : ∀ pl nu, g2 (nI 2) pl nu = some (1, pl, nu) := fun pl nu => by
      rw [← hg2, fuel_s]
      unfold B_X4_readsNumber_9
      rw [if_pos (show (2 : Int32) ≤ nI 2 by decide)]
    unfold B_X4_readsNumber_9
    rw [if_neg (show ¬ (2 : Int32) ≤ nI 1 by decide), here_m hn hl (by omega), b1s, digit_m, b1s]
    by_cases h : dgP sg n (a + 1)
    · rw [if_pos h, if_neg (show ¬ (1 : Int32) = 0 by decide), chk_nI (by omega) (by omega), b1s, chk_nI (by omega) (by omega), nI_clamp (by omega), if_pos h.1, ad1, ad1, g2s, if_pos h]
    · rw [if_neg h, if_pos rfl, if_neg h]
  unfold B_X4_readsNumber_9
  rw [if_neg (show ¬ (2 : Int32) ≤ 0 by decide), here_m hn hl (by omega), b1s, digit_m, b1s]
  by_cases h : dgP sg n a
  · rw [if_pos h, if_neg (show ¬ (1 : Int32) = 0 by decide), chk_nI (by omega) (by omega), b1s, chk_nI (by omega) (by omega), nI_clamp (by omega), up_s, up_u, if_pos h.1, ad1, show (0 : Int32) + 1 = nI 1 from rfl, g1, if_pos h, show (0 : Int32) = nI 0 from rfl, rnum0 h, Nat.mul_zero, Nat.zero_add, up_s, up_u]
    by_cases h2 : dgP sg n (a + 1)
    · rw [if_pos h2, if_pos h2, rnum0 h2]
    · rw [if_neg h2, if_neg h2]
  · rw [if_neg h, if_pos rfl, if_neg h]
