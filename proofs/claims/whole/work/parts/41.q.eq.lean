/-! ### the lane -/
def ctF (sg : Nat → Int32) (n : Nat) : Nat → Nat → Nat
  | 0, _ => 0
  | k + 1, a => if n ≤ a then 0 else 1 + ctF sg n k (a + (pbN (sg a) + 2))
theorem ctF_le (sg : Nat → Int32) (n : Nat) : ∀ k a, ctF sg n k a ≤ k
  | 0, _ => Nat.le_refl _
  | k + 1, a => by
    unfold ctF
    have := ctF_le sg n k (a + (pbN (sg a) + 2))
    split <;> omega
theorem fa1 : ∀ q, q < 100 → ¬ ((-1000 : Int32) - nI q = -9) ∧ ((-1000 : Int32) - nI q ≤ 0) ∧ ¬ ((-2000 : Int32) - nI q = -9) ∧ ((-2000 : Int32) - nI q ≤ 0) := by decide +kernel
theorem l62_out {wa le : Nat → Int32} {lm x1 : Int32} (f : Int32 → (Nat → Int32) → Int32 → (Nat → Int32) → Option (Int32 × (Nat → Int32) × (Nat → Int32) × Int32 × Int32 × (Nat → Int32))) {x2 : Int32} (h : ¬ x2 = -9) (ss : Nat → Int32) (pl : Int32) (nu : Nat → Int32) : B_X4_lane_62 x1 wa le lm f x2 ss pl nu = some (x2, ss, wa, 0, pl, nu) := by
  unfold B_X4_lane_62
  rw [if_neg h, if_neg h]
theorem l62_out2 {wa le : Nat → Int32} {lm x1 : Int32} {x2 : Int32} (h : ¬ x2 = -9) (ss : Nat → Int32) (pl : Int32) (nu : Nat → Int32) : fuel (fun _ _ _ _ => none) (B_X4_lane_62 x1 wa le lm) FU x2 ss pl nu = some (x2, ss, wa, 0, pl, nu) := by
  rw [FU_s, fuel_s]
  exact l62_out _ h ss pl nu
theorem ffF_s (sg : Nat → Int32) (n k a : Nat) : ffF sg n (k + 1) a = if n ≤ a then none else match stF sg n a with
    | some q => some q
    | none => ffF sg n k (a + (pbN (sg a) + 2)) := rfl
theorem lane1_m {sg le : Nat → Int32} {n : Nat} (hn : n ≤ 96) (hl : ∀ i, i < n → sg i = le i) (ss wa nu : Nat → Int32) (h0 : 0 < n) :
    (∃ q nu', q ≤ n ∧ ffF sg n n 0 = some q ∧ fuel (fun _ _ _ _ => none) (B_X4_lane_10 ss wa le (nI n)) FU 0 (-9) 0 nu = some ((-1000 : Int32) - nI q, ss, ss, 0, 0, nu')) ∨ ∃ nu', ffF sg n n 0 = none ∧ fuel (fun _ _ _ _ => none) (B_X4_lane_10 ss wa le (nI n)) FU 0 (-9) 0 nu = fuel (fun _ _ _ _ => none) (B_X4_lane_62 (nI (ctF sg n n 0)) ss le (nI n)) FU (-9) ss 0 nu' := by
  have key := fuelP (fun _ _ _ _ => none) (B_X4_lane_10 ss wa le (nI n)) (fun m f => ∀ (k a c : Nat) (nu : Nat → Int32), n ≤ a + k → a < n → k < m → (∃ q nu', q ≤ n ∧ ffF sg n k a = some q ∧ f (nI c) (-9) (nI a) nu = some ((-1000 : Int32) - nI q, ss, ss, 0, 0, nu')) ∨ ∃ nu', ffF sg n k a = none ∧ f (nI c) (-9) (nI a) nu = fuel (fun _ _ _ _ => none) (B_X4_lane_62 (nI (c + ctF sg n k a)) ss le (nI n)) FU (-9) ss 0 nu') (fun k a c nu _ _ h => absurd h (Nat.not_lt_zero _)) (fun m f hf k a c nu hk ha hm => by
    obtain ⟨k', rfl⟩ : ∃ k', k = k' + 1 := ⟨k - 1, by omega⟩
    have hp := pbN_le (sg a)
    unfold B_X4_lane_10
    rw [ffF_s, if_neg (show ¬ n ≤ a by omega)]
    have ec : ctF sg n (k' + 1) a = 1 + ctF sg n k' (a + (pbN (sg a) + 2)) := by
      show (if n ≤ a then 0 else 1 + ctF sg n k' (a + (pbN (sg a) + 2))) = _
      rw [if_neg (show ¬ n ≤ a by omega)]
    rw [ec]
    rcases rs_m hn hl ha nu with ⟨q, nu', e1, e2⟩ | ⟨nu', e1, e2, -, g⟩
    · have hq := stF_some e1 ha
      obtain ⟨z1, -, -, -⟩ := fa1 q (by omega)
      rw [e1, e2, b3s, if_pos rfl, if_neg z1, copies_m, b1s, l62_out2 z1]
      exact Or.inl ⟨q, nu', hq, rfl, rfl⟩
    · rw [e1, e2, b3s, if_neg (show ¬ (1 : Int32) = 0 by decide), if_pos rfl, ad1, copies_m, b1s, if_lt (by have := g.1; omega) (by omega)]
      by_cases hh : a + (pbN (sg a) + 2) < n
      · rw [if_pos hh]
        have := hf k' (a + (pbN (sg a) + 2)) (c + 1) nu' (by omega) hh (by omega)
        rw [show c + 1 + ctF sg n k' (a + (pbN (sg a) + 2)) = c + (1 + ctF sg n k' (a + (pbN (sg a) + 2))) by omega] at this
        exact this
      · rw [if_neg hh]
        have ef : ffF sg n k' (a + (pbN (sg a) + 2)) = none := by
          cases k' with
          | zero => rfl
          | succ k'' => rw [ffF_s, if_pos (by omega)]
        have ef2 : ctF sg n k' (a + (pbN (sg a) + 2)) = 0 := by
          cases k' with
          | zero => rfl
          | succ k'' =>
            show (if n ≤ a + (pbN (sg a) + 2) then 0 else _) = 0
            rw [if_pos (by omega)]
        rw [ef2]
        exact Or.inr ⟨nu', ef, rfl⟩) FU
  have := key n 0 0 nu (by omega) h0 (by rw [FU_eq]; omega)
  rw [Nat.zero_add] at this
  exact this
theorem lane2_eq {sg le : Nat → Int32} {n : Nat} (hn : n ≤ 96) (hl : ∀ i, i < n → sg i = le i) {v : SV} {r : Nat → Int32} (h : ST v r) (hf0 : ffF sg n n 0 = none) (x1 : Int32) (wa nu : Nat → Int32) :
    (∃ v' r' pl' nu', M_X0_tellTo sg (nI n) v = some (nI (ctF sg n n 0), v') ∧ fuel (fun _ _ _ _ => none) (B_X4_lane_62 x1 wa le (nI n)) FU (-9) r 0 nu = some (x1, r', wa, 0, pl', nu') ∧ ST v' r') ∨ ∃ q v' pl' nu', q ≤ n ∧ M_X0_tellTo sg (nI n) v = some ((-2000 : Int32) - nI q, v') ∧ fuel (fun _ _ _ _ => none) (B_X4_lane_62 x1 wa le (nI n)) FU (-9) r 0 nu = some ((-2000 : Int32) - nI q, wa, wa, 0, pl', nu') := by
  have key := fuelP2 (fun _ _ _ => none) (B_X0_tellTo_4 sg (nI n)) (fun _ _ _ _ => none) (B_X4_lane_62 x1 wa le (nI n)) (fun m f g => (0 < m → ∀ x2 ss pl nu, ¬ x2 = -9 → g x2 ss pl nu = some (x2, ss, wa, 0, pl, nu)) ∧ ∀ (k a c : Nat) (v : SV) (r nu : Nat → Int32), n ≤ a + k → a ≤ n → k + 1 < m → ffF sg n k a = none → ST v r → (∃ v' r' pl' nu', f (nI c) (nI a) v = some (nI (c + ctF sg n k a), v') ∧ g (-9) r (nI a) nu = some (x1, r', wa, 0, pl', nu') ∧ ST v' r') ∨ ∃ q v' pl' nu', q ≤ n ∧ f (nI c) (nI a) v = some ((-2000 : Int32) - nI q, v') ∧ g (-9) r (nI a) nu = some ((-2000 : Int32) - nI q, wa, wa, 0, pl', nu')) ⟨fun h => absurd h (Nat.not_lt_zero _), fun k a c v r nu _ _ h => absurd h (Nat.not_lt_zero _)⟩ (fun m f g hf => ⟨fun _ x2 ss pl nu hx => l62_out _ hx ss pl nu, fun k a c v r nu hk ha hm hff hst => by
    unfold B_X0_tellTo_4 B_X4_lane_62
    rw [if_pos rfl, if_pos rfl, if_le (by omega) (by omega), if_le (by omega) (by omega)]
    by_cases hh : n ≤ a
    · have ef2 : ctF sg n k a = 0 := by
        cases k with
        | zero => rfl
        | succ k' =>
          show (if n ≤ a then 0 else _) = 0
          rw [if_pos hh]
      rw [if_pos hh, if_pos hh, ef2, Nat.add_zero]
      exact Or.inl ⟨v, r, _, _, rfl, rfl, hst⟩
    · obtain ⟨k', rfl⟩ : ∃ k', k = k' + 1 := ⟨k - 1, by omega⟩
      have hp := pbN_le (sg a)
      have ec : ctF sg n (k' + 1) a = 1 + ctF sg n k' (a + (pbN (sg a) + 2)) := by
        show (if n ≤ a then 0 else 1 + ctF sg n k' (a + (pbN (sg a) + 2))) = _
        rw [if_neg hh]
      rw [ec]
      rw [ffF_s, if_neg hh] at hff
      rcases rs_m hn hl (show a < n by omega) nu with ⟨q, nu', e1, e2⟩ | ⟨nu', e1, e2, u, dg⟩
      · rw [e1] at hff
        cases hff
      · rw [e1] at hff
        have hk0 : ¬ pbN (sg a) = 0 := fun e => by
          unfold stF at e1
          rw [if_pos e] at e1
          cases e1
        obtain ⟨v', r', ⟨o1, o2, o3⟩ | ⟨o1, o2⟩⟩ := one_eq hst hn hk0 dg u
        · rw [if_neg hh, if_neg hh, o1, b2s, if_neg (show ¬ (1 : Int32) = 0 by decide), sign_c hn (by omega), b1s, if_pos (show a < n by omega), parts_c, b1s, here_m hn hl (by omega), b1s, if_pos (show a < n by omega), e2, b3s, o2, b2s, if_neg (show ¬ (1 : Int32) = 0 by decide), ad1, ad2, nI_add]
          have := hf.2 k' (a + (pbN (sg a) + 2)) (c + 1) v' r' nu' (by omega) dg.1 (by omega) hff o3
          rw [show c + 1 + ctF sg n k' (a + (pbN (sg a) + 2)) = c + (1 + ctF sg n k' (a + (pbN (sg a) + 2))) by omega] at this
          exact this
        · obtain ⟨-, -, z1, -⟩ := fa1 a (by omega)
          rw [if_neg hh, if_neg hh, o1, b2s, if_pos rfl, here_m hn hl (by omega), b1s, if_pos (show a < n by omega), e2, b3s, o2, b2s, if_pos rfl, copies_m, b1s]
          rw [hf.1 (by omega) _ _ _ _ z1]
          exact Or.inr ⟨a, v', _, _, by omega, rfl, rfl⟩⟩) FU
  have := key.2 n 0 0 v r nu (by omega) (by omega) (by rw [FU_eq]; omega) hf0 h
  rw [Nat.zero_add] at this
  exact this
theorem eq_lane {no : SV} {ss sg le : Nat → Int32} {lz lm : Int32} (h : ST no ss) (l : LT sg lz le lm) (mi : SV) (wa : Nat → Int32) (pl : Int32) (nu : Nat → Int32) : ∃ res no' mi' lz' ss' wa' lm' pl' nu', M_X3_lane no mi sg lz = some (res, no', mi', lz') ∧ M_X4_lane ss wa le lm pl nu = some (res, ss', wa', lm', pl', nu') ∧ ST no' ss' ∧ LT sg lz' le lm' := by
  obtain ⟨n, hn, rfl, rfl, hl⟩ := id l
  have l0 : LT sg 0 le 0 := ⟨0, by omega, rfl, rfl, fun i hi => absurd hi (Nat.not_lt_zero _)⟩
  have hl' : ∀ i, i < n → sg i = le i := fun i hi => (hl i hi).1
  unfold M_X3_lane M_X4_lane M_X0_forget
  rw [become_c, b1s]
  simp only [b1s, become_c]
  by_cases h0 : n = 0
  · subst h0
    have e1 : M_X0_formFault sg (nI 0) = some 0 := rfl
    rw [e1, b1s, if_neg (show ¬ (0 : Int32) = -9 by decide), if_pos (show (-1000 : Int32) - 0 ≤ 0 by decide), FU_s, fuel_s]
    unfold B_X4_lane_10
    have e2 : M_X4_readsStatement le (nI 0) 0 nu = some (0, 0, nu) := rs_end (a := 0) (by omega) hl' (Nat.lt_irrefl 0) (by omega) nu
    rw [e2, b3s, if_pos rfl, if_neg (show ¬ (-1000 : Int32) - 0 = -9 by decide), copies_m, b1s, l62_out2 (show ¬ (-1000 : Int32) - 0 = -9 by decide)]
    exact ⟨_, _, _, _, _, _, _, _, _, rfl, rfl, h, l0⟩
  · rw [formFault_c hn (by omega), b1s]
    rcases lane1_m hn hl' ss wa nu (by omega) with ⟨q, nu', hq, e1, e2⟩ | ⟨nu', e1, e2⟩
    · obtain ⟨z1, z2, -, -⟩ := fa1 q (by omega)
      have hq9 : ¬ nI q = -9 := fun e => absurd (show (-9 : Int32) < 0 by decide) (by rw [← e]; exact nI_pos (by omega))
      rw [e1, e2, show oI (some q) = nI q from rfl, if_neg hq9, if_pos z2]
      exact ⟨_, _, _, _, _, _, _, _, _, rfl, rfl, h, l0⟩
    · rw [e1, e2, show oI none = -9 from rfl, if_pos rfl]
      rcases lane2_eq hn hl' h e1 (nI (ctF sg n n 0)) ss nu' with ⟨v', r', pl', nu2, a1, a2, a3⟩ | ⟨q, v', pl', nu2, hq, a1, a2⟩
      · have hc : 0 < ctF sg n n 0 := by
          obtain ⟨m, rfl⟩ : ∃ m, n = m + 1 := ⟨n - 1, by omega⟩
          show 0 < (if m + 1 ≤ 0 then 0 else 1 + ctF sg (m + 1) m (0 + (pbN (sg 0) + 2)))
          rw [if_neg (by omega)]
          omega
        have hc2 := ctF_le sg n n 0
        rw [a1, a2, b2s, show (0 : Int32) = nI 0 from rfl, if_le (by omega) (by omega), if_neg (show ¬ ctF sg n n 0 ≤ 0 by omega)]
        exact ⟨_, _, _, _, _, _, _, _, _, rfl, rfl, a3, l0⟩
      · obtain ⟨-, -, z1, z2⟩ := fa1 q (by omega)
        rw [a1, a2, b2s, if_pos z2]
        exact ⟨_, _, _, _, _, _, _, _, _, rfl, rfl, h, l0⟩
