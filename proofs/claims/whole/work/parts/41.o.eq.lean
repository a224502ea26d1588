/-! a statement in the reference -/
def key7 (c : Int32) : Prop := c = 98 ∨ c = 100 ∨ c = 110 ∨ c = 112 ∨ c = 115 ∨ c = 116 ∨ c = 119
theorem key_of {c : Int32} (h : ¬ pbN c = 0) : key7 c := by
  unfold key7
  by_cases h1 : c = 98
  · exact Or.inl h1
  by_cases h2 : c = 100
  · exact Or.inr (Or.inl h2)
  by_cases h3 : c = 110
  · exact Or.inr (Or.inr (Or.inl h3))
  by_cases h4 : c = 112
  · exact Or.inr (Or.inr (Or.inr (Or.inl h4)))
  by_cases h5 : c = 115
  · exact Or.inr (Or.inr (Or.inr (Or.inr (Or.inl h5))))
  by_cases h6 : c = 116
  · exact Or.inr (Or.inr (Or.inr (Or.inr (Or.inr (Or.inl h6)))))
  by_cases h7 : c = 119
  · exact Or.inr (Or.inr (Or.inr (Or.inr (Or.inr (Or.inr h7)))))
  · exfalso
    apply h
    unfold pbN
    rw [if_neg h1, if_neg h2, if_neg h3, if_neg h4, if_neg h5, if_neg h6, if_neg h7]
theorem nokey {c : Int32} (h : pbN c = 0) : ¬ c = 98 ∧ ¬ c = 100 ∧ ¬ c = 110 ∧ ¬ c = 112 ∧ ¬ c = 115 ∧ ¬ c = 116 ∧ ¬ c = 119 := by
  refine ⟨?_, ?_, ?_, ?_, ?_, ?_, ?_⟩ <;> (intro e; subst e; exact absurd h (by decide))
/-- what a statement's numbers are -/
def NU (sg nu : Nat → Int32) (a : Nat) : Prop :=
  (sg a = 98 ∨ sg a = 115 ∨ sg a = 119 → nu 0 = nI (dN sg (a + 1)) ∧ nu 1 = nI (dN sg (a + 2))) ∧
  (sg a = 110 ∨ sg a = 112 → nu 0 = nI (dN sg (a + 1))) ∧
  (sg a = 100 → nu 0 = nI (10 * dN sg (a + 1) + dN sg (a + 2))) ∧
  (sg a = 116 → nu 0 = koI (sg (a + 1)) ∧ nu 1 = nI (dN sg (a + 2)) ∧ nu 2 = nI (dN sg (a + 3)))
/-- what a statement's letters are -/
def DG (sg : Nat → Int32) (n a : Nat) : Prop :=
  a + (pbN (sg a) + 2) ≤ n ∧
  (sg a = 98 ∨ sg a = 115 ∨ sg a = 119 ∨ sg a = 100 → dgP sg n (a + 1) ∧ dgP sg n (a + 2)) ∧
  (sg a = 110 ∨ sg a = 112 → dgP sg n (a + 1)) ∧
  (sg a = 116 → kdP sg n (a + 1) ∧ dgP sg n (a + 2) ∧ dgP sg n (a + 3))
def RS (sg : Nat → Int32) (n a : Nat) (R : Option (Int32 × Int32 × (Nat → Int32))) : Prop :=
  (∃ q nu', stF sg n a = some q ∧ R = some (0, nI q, nu')) ∨ ∃ nu', stF sg n a = none ∧ R = some (1, nI (a + (pbN (sg a) + 2)), nu') ∧ NU sg nu' a ∧ DG sg n a
theorem end_m {sg le : Nat → Int32} {n i : Nat} (hn : n ≤ 96) (hl : ∀ i, i < n → sg i = le i) (hi : i < 190) (nu : Nat → Int32) : (bnd1 (M_X4_here le (nI n) (nI i)) fun r218 => if r218 = (59 : Int32) then some ((1 : Int32), (nI i + (1 : Int32)), nu) else some ((0 : Int32), nI i, nu)) = if scP sg n i then some (1, nI (i + 1), nu) else some (0, nI i, nu) := by
  rw [here_m hn hl (by omega), b1s, ad1]
  by_cases h : i < n
  · rw [if_pos h]
    by_cases h2 : sg i = 59
    · rw [if_pos h2, if_pos ⟨h, h2⟩]
    · rw [if_neg h2, if_neg (fun x => h2 x.2)]
  · rw [if_neg h, if_neg (show ¬ (-1 : Int32) = 59 by decide), if_neg (fun x => h x.1)]
theorem st1 {sg : Nat → Int32} {n a : Nat} (h : pbN (sg a) = 1) : stF sg n a = if okP sg n a 1 1 then (if okP sg n a 1 2 then none else some (a + 2)) else some (a + 1) := by
  unfold stF
  rw [h, if_neg (show ¬ (1 : Nat) = 0 by omega)]
  by_cases h1 : okP sg n a 1 1
  · by_cases h2 : okP sg n a 1 2
    · rw [if_pos h1, if_pos h2]
      unfold fnd
      rw [if_neg (fun x => x h1)]
      unfold fnd
      rw [if_neg (fun x => x h2)]
      rfl
    · rw [if_pos h1, if_neg h2]
      unfold fnd
      rw [if_neg (fun x => x h1)]
      unfold fnd
      rw [if_pos h2]
  · rw [if_neg h1]
    unfold fnd
    rw [if_pos h1]
theorem st2 {sg : Nat → Int32} {n a : Nat} (h : pbN (sg a) = 2) : stF sg n a = if okP sg n a 2 1 then (if okP sg n a 2 2 then (if okP sg n a 2 3 then none else some (a + 3)) else some (a + 2)) else some (a + 1) := by
  unfold stF
  rw [h, if_neg (show ¬ (2 : Nat) = 0 by omega)]
  by_cases h1 : okP sg n a 2 1
  · rw [if_pos h1]
    unfold fnd
    rw [if_neg (fun x => x h1)]
    unfold fnd
    by_cases h2 : okP sg n a 2 2
    · rw [if_pos h2, if_neg (fun x => x h2)]
      unfold fnd
      by_cases h3 : okP sg n a 2 3
      · rw [if_pos h3, if_neg (fun x => x h3)]; rfl
      · rw [if_neg h3, if_pos h3]
    · rw [if_neg h2, if_pos h2]
  · rw [if_neg h1]
    unfold fnd
    rw [if_pos h1]
theorem st3 {sg : Nat → Int32} {n a : Nat} (h : pbN (sg a) = 3) : stF sg n a = if okP sg n a 3 1 then (if okP sg n a 3 2 then (if okP sg n a 3 3 then (if okP sg n a 3 4 then none else some (a + 4)) else some (a + 3)) else some (a + 2)) else some (a + 1) := by
  unfold stF
  rw [h, if_neg (show ¬ (3 : Nat) = 0 by omega)]
  by_cases h1 : okP sg n a 3 1
  · rw [if_pos h1]
    unfold fnd
    rw [if_neg (fun x => x h1)]
    unfold fnd
    by_cases h2 : okP sg n a 3 2
    · rw [if_pos h2, if_neg (fun x => x h2)]
      unfold fnd
      by_cases h3 : okP sg n a 3 3
      · rw [if_pos h3, if_neg (fun x => x h3)]
        unfold fnd
        by_cases h4 : okP sg n a 3 4
        · rw [if_pos h4, if_neg (fun x => x h4)]; rfl
        · rw [if_neg h4, if_pos h4]
      · rw [if_neg h3, if_pos h3]
    · rw [if_neg h2, if_pos h2]
  · rw [if_neg h1]
    unfold fnd
    rw [if_pos h1]
/-- letters of one number -/
theorem rs1 {sg le : Nat → Int32} {n a : Nat} (hn : n ≤ 96) (hl : ∀ i, i < n → sg i = le i) (ha : a < n) (h : sg a = 110 ∨ sg a = 112) (nu : Nat → Int32) : RS sg n a (bnd3 (M_X4_readsNumber le (nI n) (nI (a + 1)) nu (0 : Int32) (1 : Int32)) fun r123 u123_pl u123_nu => if r123 = 0 then some ((0 : Int32), u123_pl, u123_nu) else bnd1 (M_X4_here le (nI n) u123_pl) fun r218 => if r218 = (59 : Int32) then some ((1 : Int32), (u123_pl + (1 : Int32)), u123_nu) else some ((0 : Int32), u123_pl, u123_nu)) := by
  have hp : pbN (sg a) = 1 := by rcases h with e | e <;> rw [e] <;> rfl
  have h6 : ¬ sg a = 116 := by rcases h with e | e <;> rw [e] <;> decide
  have k1 := ok_dg (sg := sg) (n := n) (at_ := a) (p := 1) (j := 1) (by omega) (fun x => h6 x.2)
  have k2 := ok_sc (sg := sg) (n := n) (at_ := a) (p := 1) (j := 2) (by omega)
  have e1 := rn1 (x := 0) hn hl (show a + 1 < 190 by omega) (by omega) nu
  rw [show nI 0 = 0 from rfl] at e1
  unfold RS
  rw [st1 hp, e1, hp]
  by_cases d1 : dgP sg n (a + 1)
  · rw [if_pos d1, if_pos (k1.mpr d1), b3s, if_neg (show ¬ (1 : Int32) = 0 by decide), end_m hn hl (by omega)]
    by_cases d2 : scP sg n (a + 2)
    · rw [if_pos (show scP sg n (a + 1 + 1) from d2), if_pos (k2.mpr d2)]
      refine Or.inr ⟨_, rfl, rfl, ⟨fun x => ?_, fun _ => up_s, fun x => ?_, fun x => absurd x h6⟩, ?_, fun x => ?_, fun _ => d1, fun x => absurd x h6⟩
      · exfalso
        rcases h with e | e <;> rw [e] at x <;> exact absurd x (by decide)
      · exfalso
        rcases h with e | e <;> rw [e] at x <;> exact absurd x (by decide)
      · rw [hp]; have := d2.1; omega
      · exfalso
        rcases h with e | e <;> rw [e] at x <;> exact absurd x (by decide)
    · rw [if_neg (show ¬ scP sg n (a + 1 + 1) from d2), if_neg (fun x => d2 (k2.mp x))]
      exact Or.inl ⟨_, _, rfl, rfl⟩
  · rw [if_neg d1, if_neg (fun x => d1 (k1.mp x)), b3s, if_pos rfl]
    exact Or.inl ⟨_, _, rfl, rfl⟩
/-- letters of two numbers -/
theorem rs2 {sg le : Nat → Int32} {n a : Nat} (hn : n ≤ 96) (hl : ∀ i, i < n → sg i = le i) (ha : a < n) (h : sg a = 98 ∨ sg a = 115 ∨ sg a = 119) (nu : Nat → Int32) : RS sg n a (bnd3 (M_X4_readsNumber le (nI n) (nI (a + 1)) nu (0 : Int32) (1 : Int32)) fun r167 u167_pl u167_nu => if r167 = 0 then some ((0 : Int32), u167_pl, u167_nu) else bnd3 (M_X4_readsNumber le (nI n) u167_pl u167_nu (1 : Int32) (1 : Int32)) fun r176 u176_pl u176_nu => if r176 = 0 then some ((0 : Int32), u176_pl, u176_nu) else bnd1 (M_X4_here le (nI n) u176_pl) fun r218 => if r218 = (59 : Int32) then some ((1 : Int32), (u176_pl + (1 : Int32)), u176_nu) else some ((0 : Int32), u176_pl, u176_nu)) := by
  have hp : pbN (sg a) = 2 := by rcases h with e | e | e <;> rw [e] <;> rfl
  have h6 : ¬ sg a = 116 := by rcases h with e | e | e <;> rw [e] <;> decide
  have k1 := ok_dg (sg := sg) (n := n) (at_ := a) (p := 2) (j := 1) (by omega) (fun x => h6 x.2)
  have k2 := ok_dg (sg := sg) (n := n) (at_ := a) (p := 2) (j := 2) (by omega) (fun x => h6 x.2)
  have k3 := ok_sc (sg := sg) (n := n) (at_ := a) (p := 2) (j := 3) (by omega)
  have e1 := rn1 (x := 0) hn hl (show a + 1 < 190 by omega) (by omega) nu
  rw [show nI 0 = 0 from rfl] at e1
  unfold RS
  rw [st2 hp, e1, hp]
  by_cases d1 : dgP sg n (a + 1)
  · have e2 : M_X4_readsNumber le (nI n) (nI (a + 1 + 1)) (upd nu 0 (nI (dN sg (a + 1)))) 1 1 = if dgP sg n (a + 2) then some (1, nI (a + 3), upd (upd nu 0 (nI (dN sg (a + 1)))) 1 (nI (dN sg (a + 2)))) else some (0, nI (a + 2), upd (upd nu 0 (nI (dN sg (a + 1)))) 1 0) := rn1 (x := 1) (a := a + 2) hn hl (by omega) (by omega) _
    rw [if_pos d1, if_pos (k1.mpr d1), b3s, if_neg (show ¬ (1 : Int32) = 0 by decide), e2]
    by_cases d2 : dgP sg n (a + 2)
    · rw [if_pos d2, if_pos (k2.mpr d2), b3s, if_neg (show ¬ (1 : Int32) = 0 by decide), end_m hn hl (by omega)]
      by_cases d3 : scP sg n (a + 3)
      · rw [if_pos (show scP sg n (a + 3) from d3), if_pos (k3.mpr d3)]
        refine Or.inr ⟨_, rfl, rfl, ⟨fun _ => ⟨?_, up_s⟩, fun x => ?_, fun x => ?_, fun x => absurd x h6⟩, ?_, fun _ => ⟨d1, d2⟩, fun x => ?_, fun x => absurd x h6⟩
        · rw [up_n (by omega), up_s]
        · exfalso
          rcases h with e | e | e <;> rw [e] at x <;> exact absurd x (by decide)
        · exfalso
          rcases h with e | e | e <;> rw [e] at x <;> exact absurd x (by decide)
        · rw [hp]; have := d3.1; omega
        · exfalso
          rcases h with e | e | e <;> rw [e] at x <;> exact absurd x (by decide)
      · rw [if_neg (show ¬ scP sg n (a + 3) from d3), if_neg (fun x => d3 (k3.mp x))]
        exact Or.inl ⟨_, _, rfl, rfl⟩
    · rw [if_neg d2, if_neg (fun x => d2 (k2.mp x)), b3s, if_pos rfl]
      exact Or.inl ⟨_, _, rfl, rfl⟩
  · rw [if_neg d1, if_neg (fun x => d1 (k1.mp x)), b3s, if_pos rfl]
    exact Or.inl ⟨_, _, rfl, rfl⟩
theorem rsd {sg le : Nat → Int32} {n a : Nat} (hn : n ≤ 96) (hl : ∀ i, i < n → sg i = le i) (ha : a < n) (h : sg a = 100) (nu : Nat → Int32) : RS sg n a (bnd3 (M_X4_readsNumber le (nI n) (nI (a + 1)) nu (0 : Int32) (2 : Int32)) fun r194 u194_pl u194_nu => if r194 = 0 then some ((0 : Int32), u194_pl, u194_nu) else bnd1 (M_X4_here le (nI n) u194_pl) fun r218 => if r218 = (59 : Int32) then some ((1 : Int32), (u194_pl + (1 : Int32)), u194_nu) else some ((0 : Int32), u194_pl, u194_nu)) := by
  have hp : pbN (sg a) = 2 := by rw [h]; rfl
  have h6 : ¬ sg a = 116 := by rw [h]; decide
  have k1 := ok_dg (sg := sg) (n := n) (at_ := a) (p := 2) (j := 1) (by omega) (fun x => h6 x.2)
  have k2 := ok_dg (sg := sg) (n := n) (at_ := a) (p := 2) (j := 2) (by omega) (fun x => h6 x.2)
  have k3 := ok_sc (sg := sg) (n := n) (at_ := a) (p := 2) (j := 3) (by omega)
  have e1 := rn2 (x := 0) hn hl (show a + 1 < 190 by omega) (by omega) nu
  rw [show nI 0 = 0 from rfl] at e1
  unfold RS
  rw [st2 hp, e1, hp]
  by_cases d1 : dgP sg n (a + 1)
  · rw [if_pos d1, if_pos (k1.mpr d1)]
    by_cases d2 : dgP sg n (a + 2)
    · rw [if_pos (show dgP sg n (a + 1 + 1) from d2), if_pos (k2.mpr d2), b3s, if_neg (show ¬ (1 : Int32) = 0 by decide), end_m hn hl (by omega)]
      by_cases d3 : scP sg n (a + 3)
      · rw [if_pos (show scP sg n (a + 1 + 2) from d3), if_pos (k3.mpr d3)]
        refine Or.inr ⟨_, rfl, rfl, ⟨fun x => ?_, fun x => ?_, fun _ => up_s, fun x => absurd x h6⟩, ?_, fun _ => ⟨d1, d2⟩, fun x => ?_, fun x => absurd x h6⟩
        · exfalso
          rw [h] at x; exact absurd x (by decide)
        · exfalso
          rw [h] at x; exact absurd x (by decide)
        · rw [hp]; have := d3.1; omega
        · exfalso
          rw [h] at x; exact absurd x (by decide)
      · rw [if_neg (show ¬ scP sg n (a + 1 + 2) from d3), if_neg (fun x => d3 (k3.mp x))]
        exact Or.inl ⟨_, _, rfl, rfl⟩
    · rw [if_neg (show ¬ dgP sg n (a + 1 + 1) from d2), if_neg (fun x => d2 (k2.mp x)), b3s, if_pos rfl]
      exact Or.inl ⟨_, _, rfl, rfl⟩
  · rw [if_neg d1, if_neg (fun x => d1 (k1.mp x)), b3s, if_pos rfl]
    exact Or.inl ⟨_, _, rfl, rfl⟩
theorem ko_m1 : koI (-1) = -9 := by decide
theorem rkind {sg le : Nat → Int32} {n a : Nat} (hn : n ≤ 96) (hl : ∀ i, i < n → sg i = le i) (ha : a < 190) (nu : Nat → Int32) : M_X4_readsKind le (nI n) (nI a) nu = if kdP sg n a then some (1, nI (a + 1), upd nu 0 (koI (sg a))) else some (0, nI a, upd nu 0 (-9)) := by
  unfold M_X4_readsKind
  rw [here_m hn hl (by omega), b1s, kindBy_m, b1s, up_s, ad1, ad0]
  by_cases h : a < n
  · rw [if_pos h]
    rcases koI_cases (sg a) with e | ⟨k, hk, e⟩
    · rw [if_neg (show ¬ (0 : Int32) ≤ koI (sg a) by rw [e]; decide), if_pos (show koI (sg a) < 0 by rw [e]; decide), if_neg (fun x => x.2 e), e]
    · have h9 : ¬ nI k = -9 := fun e => absurd (show (-9 : Int32) < 0 by decide) (by rw [← e]; exact nI_pos (by omega))
      rw [if_pos (show (0 : Int32) ≤ koI (sg a) by rw [e]; exact nI_pos' (by omega)), if_neg (show ¬ koI (sg a) < 0 by rw [e]; exact nI_pos (by omega)), if_pos ⟨h, by rw [e]; exact h9⟩]
  · rw [if_neg h, ko_m1, if_neg (show ¬ (0 : Int32) ≤ -9 by decide), if_pos (show (-9 : Int32) < 0 by decide), if_neg (fun x => h x.1)]
theorem rst {sg le : Nat → Int32} {n a : Nat} (hn : n ≤ 96) (hl : ∀ i, i < n → sg i = le i) (ha : a < n) (h : sg a = 116) (nu : Nat → Int32) : RS sg n a (bnd3 (M_X4_readsKind le (nI n) (nI (a + 1)) nu) fun r131 u131_pl u131_nu => if r131 = 0 then some ((0 : Int32), u131_pl, u131_nu) else bnd3 (M_X4_readsNumber le (nI n) u131_pl u131_nu (1 : Int32) (1 : Int32)) fun r140 u140_pl u140_nu => if r140 = 0 then some ((0 : Int32), u140_pl, u140_nu) else bnd3 (M_X4_readsNumber le (nI n) u140_pl u140_nu (2 : Int32) (1 : Int32)) fun r149 u149_pl u149_nu => if r149 = 0 then some ((0 : Int32), u149_pl, u149_nu) else bnd1 (M_X4_here le (nI n) u149_pl) fun r218 => if r218 = (59 : Int32) then some ((1 : Int32), (u149_pl + (1 : Int32)), u149_nu) else some ((0 : Int32), u149_pl, u149_nu)) := by
  have hp : pbN (sg a) = 3 := by rw [h]; rfl
  have k1 := ok_kd (sg := sg) (n := n) (at_ := a) (p := 3) (by omega) h
  have k2 := ok_dg (sg := sg) (n := n) (at_ := a) (p := 3) (j := 2) (by omega) (fun x => by have := x.1; omega)
  have k3 := ok_dg (sg := sg) (n := n) (at_ := a) (p := 3) (j := 3) (by omega) (fun x => by have := x.1; omega)
  have k4 := ok_sc (sg := sg) (n := n) (at_ := a) (p := 3) (j := 4) (by omega)
  unfold RS
  rw [st3 hp, rkind hn hl (by omega), hp]
  by_cases d1 : kdP sg n (a + 1)
  · have e2 : M_X4_readsNumber le (nI n) (nI (a + 1 + 1)) (upd nu 0 (koI (sg (a + 1)))) 1 1 = if dgP sg n (a + 2) then some (1, nI (a + 3), upd (upd nu 0 (koI (sg (a + 1)))) 1 (nI (dN sg (a + 2)))) else some (0, nI (a + 2), upd (upd nu 0 (koI (sg (a + 1)))) 1 0) := rn1 (x := 1) (a := a + 2) hn hl (by omega) (by omega) _
    rw [if_pos d1, if_pos (k1.mpr d1), b3s, if_neg (show ¬ (1 : Int32) = 0 by decide), e2]
    by_cases d2 : dgP sg n (a + 2)
    · have e3 : M_X4_readsNumber le (nI n) (nI (a + 3)) (upd (upd nu 0 (koI (sg (a + 1)))) 1 (nI (dN sg (a + 2)))) 2 1 = if dgP sg n (a + 3) then some (1, nI (a + 4), upd (upd (upd nu 0 (koI (sg (a + 1)))) 1 (nI (dN sg (a + 2)))) 2 (nI (dN sg (a + 3)))) else some (0, nI (a + 3), upd (upd (upd nu 0 (koI (sg (a + 1)))) 1 (nI (dN sg (a + 2)))) 2 0) := rn1 (x := 2) (a := a + 3) hn hl (by omega) (by omega) _
      rw [if_pos d2, if_pos (k2.mpr d2), b3s, if_neg (show ¬ (1 : Int32) = 0 by decide), e3]
      by_cases d3 : dgP sg n (a + 3)
      · rw [if_pos d3, if_pos (k3.mpr d3), b3s, if_neg (show ¬ (1 : Int32) = 0 by decide), end_m hn hl (by omega)]
        by_cases d4 : scP sg n (a + 4)
        · rw [if_pos (show scP sg n (a + 4) from d4), if_pos (k4.mpr d4)]
          refine Or.inr ⟨_, rfl, rfl, ⟨fun x => ?_, fun x => ?_, fun x => ?_, fun _ => ⟨?_, ?_, up_s⟩⟩, ?_, fun x => ?_, fun x => ?_, fun _ => ⟨d1, d2, d3⟩⟩
          · exfalso
            rw [h] at x; exact absurd x (by decide)
          · exfalso
            rw [h] at x; exact absurd x (by decide)
          · exfalso
            rw [h] at x; exact absurd x (by decide)
          · rw [up_n (by omega), up_n (by omega), up_s]
          · rw [up_n (by omega), up_s]
          · rw [hp]; have := d4.1; omega
          · exfalso
            rw [h] at x; exact absurd x (by decide)
          · exfalso
            rw [h] at x; exact absurd x (by decide)
        · rw [if_neg (show ¬ scP sg n (a + 4) from d4), if_neg (fun x => d4 (k4.mp x))]
          exact Or.inl ⟨_, _, rfl, rfl⟩
      · rw [if_neg d3, if_neg (fun x => d3 (k3.mp x)), b3s, if_pos rfl]
        exact Or.inl ⟨_, _, rfl, rfl⟩
    · rw [if_neg d2, if_neg (fun x => d2 (k2.mp x)), b3s, if_pos rfl]
      exact Or.inl ⟨_, _, rfl, rfl⟩
  · rw [if_neg d1, if_neg (fun x => d1 (k1.mp x)), b3s, if_pos rfl]
    exact Or.inl ⟨_, _, rfl, rfl⟩
theorem rs_m {sg le : Nat → Int32} {n a : Nat} (hn : n ≤ 96) (hl : ∀ i, i < n → sg i = le i) (ha : a < n) (nu : Nat → Int32) : RS sg n a (M_X4_readsStatement le (nI n) (nI a) nu) := by
  unfold M_X4_readsStatement
  rw [here_m hn hl (by omega), b1s, if_pos ha, ad1]
  by_cases h1 : sg a = 98
  · rw [if_pos h1]; exact rs2 hn hl ha (Or.inl h1) nu
  rw [if_neg h1]
  by_cases h2 : sg a = 100
  · rw [if_pos h2]; exact rsd hn hl ha h2 nu
  rw [if_neg h2]
  by_cases h3 : sg a = 110
  · rw [if_pos h3]; exact rs1 hn hl ha (Or.inl h3) nu
  rw [if_neg h3]
  by_cases h4 : sg a = 112
  · rw [if_pos h4]; exact rs1 hn hl ha (Or.inr h4) nu
  rw [if_neg h4]
  by_cases h5 : sg a = 115
  · rw [if_pos h5]; exact rs2 hn hl ha (Or.inr (Or.inl h5)) nu
  rw [if_neg h5]
  by_cases h6 : sg a = 116
  · rw [if_pos h6]; exact rst hn hl ha h6 nu
  rw [if_neg h6]
  by_cases h7 : sg a = 119
  · rw [if_pos h7]; exact rs2 hn hl ha (Or.inr (Or.inr h7)) nu
  rw [if_neg h7]
  have hp : pbN (sg a) = 0 := by
    unfold pbN
    rw [if_neg h1, if_neg h2, if_neg h3, if_neg h4, if_neg h5, if_neg h6, if_neg h7]
  refine Or.inl ⟨a, nu, ?_, ?_⟩
  · unfold stF
    rw [if_pos hp]
  · rw [← ad1, Int32.add_sub_cancel]
theorem rs_end {sg le : Nat → Int32} {n a : Nat} (hn : n ≤ 96) (hl : ∀ i, i < n → sg i = le i) (ha : ¬ a < n) (ha2 : a < 190) (nu : Nat → Int32) : M_X4_readsStatement le (nI n) (nI a) nu = some (0, nI a, nu) := by
  unfold M_X4_readsStatement
  rw [here_m hn hl (by omega), b1s, if_neg ha, if_neg (show ¬ (-1 : Int32) = 98 by decide), if_neg (show ¬ (-1 : Int32) = 100 by decide), if_neg (show ¬ (-1 : Int32) = 110 by decide), if_neg (show ¬ (-1 : Int32) = 112 by decide), if_neg (show ¬ (-1 : Int32) = 115 by decide), if_neg (show ¬ (-1 : Int32) = 116 by decide), if_neg (show ¬ (-1 : Int32) = 119 by decide), Int32.add_sub_cancel]
