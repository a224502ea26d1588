/-! the reference's search -/
def nxN (c x : Nat) : Nat := if c ≤ x then x + 1 else c
theorem bm_lt : ∀ c, c < 12 → ∀ m, m < 12 → ((nI c - (1 : Int32)) < nI m ↔ c ≤ m) := by decide +kernel
theorem bm_up : ∀ m, m < 12 → nI m = nI (m + 1) - (1 : Int32) := by decide +kernel
theorem givesCopy {self : (Nat → Int32) → (Nat → Int32) → (Nat → Int32) → Int32 → Int32 → Int32 → Int32 → Option ((Nat → Int32) × (Nat → Int32) × Int32)} (ss gi bg : Nat → Int32) (m : Int32) : ∃ bg', (∀ i, i < 9 → bg' i = gi i) ∧ fuel (fun _ _ => none) (B_X4_gives_27 self ss gi m) FU 0 bg = some (gi, bg', m) := by
  refine fuelP (fun _ _ => none) (B_X4_gives_27 self ss gi m) (fun n f => ∀ (i : Nat) (bg : Nat → Int32), i ≤ 9 → 9 - i < n → (∀ j, j < i → bg j = gi j) → ∃ bg', (∀ i, i < 9 → bg' i = gi i) ∧ f (nI i) bg = some (gi, bg', m)) (fun i _ _ h => absurd h (Nat.not_lt_zero _)) (fun n f hf i bg hi hn hb => ?_) FU 0 bg (Nat.zero_le _) (by rw [FU_eq]; omega) (fun j h => absurd h (Nat.not_lt_zero _))
  unfold B_X4_gives_27
  rw [show (9 : Int32) = nI 9 from rfl, if_le (by omega) (by omega)]
  by_cases hh : 9 ≤ i
  · rw [if_pos hh]
    exact ⟨bg, fun j hj => hb j (by omega), rfl⟩
  · rw [if_neg hh, chk_nI (by omega) (by omega), chk_nI (by omega) (by omega), nI_clamp (by omega), ad1]
    refine hf (i + 1) _ (by omega) (by omega) (fun j hj => ?_)
    by_cases e : j = i
    · subst e; rw [up_s]
    · rw [up_n e]; exact hb j (by omega)
/-- what is searched from k on, behind b and m -/
def GV (v : SV) (P T : Nat) (ss : Nat → Int32) (k d : Nat) : Prop := ∀ (gi bg : Nat → Int32) (c b m : Nat), b < 64 → c ≤ 10 → m + k ≤ 9 → ∃ gi' bg', M_X4_gives d ss gi bg (nI c - 1) (nI (T - k)) (nI b) (nI m) = some (gi', bg', nI (nxN c (m + mxF v P T k b)) - 1) ∧ (∀ i, i < T - k → gi' i = gi i) ∧ (c ≤ m + mxF v P T k b → ∀ i, i < T → bg' i = if i < T - k then gi i else gsF v P T k b i) ∧ (¬ c ≤ m + mxF v P T k b → bg' = bg)
theorem gives_0 {v : SV} {P T : Nat} {ss : Nat → Int32} (hr : RR v (-9) ss) (w : WF v P T) (d : Nat) : GV v P T ss 0 (d + 1) := by
  intro gi bg c b m hb hc hm
  have hT := w.2.1
  show ∃ gi' bg', N_X4_gives (M_X4_gives d) ss gi bg (nI c - 1) (nI (T - 0)) (nI b) (nI m) = _ ∧ _
  generalize M_X4_gives d = self
  unfold N_X4_gives
  have e0 : mxF v P T 0 b = 0 := rfl
  rw [hr.th, w.2.2.2.1, Nat.sub_zero, if_pos rfl, e0, Nat.add_zero]
  unfold nxN
  by_cases h : c ≤ m
  · obtain ⟨bg', g1, g2⟩ := givesCopy (self := self) ss gi bg (nI m)
    rw [if_pos ((bm_lt c (by omega) m (by omega)).mpr h), g2, if_pos h]
    exact ⟨gi, bg', by rw [← bm_up m (by omega)], fun _ _ => rfl, fun _ i hi => by rw [if_pos hi]; exact g1 i (by omega), fun x => absurd h x⟩
  · rw [if_neg (fun x => h ((bm_lt c (by omega) m (by omega)).mp x)), if_neg h]
    exact ⟨gi, bg, rfl, fun _ _ => rfl, fun x => absurd x h, fun _ => rfl⟩
/-- where the search stands behind those below j -/
def GJ (v : SV) (P T k b m c : Nat) (gi bg : Nat → Int32) (j cj : Nat) (bj : Nat → Int32) : Prop :=
  (cj = c ∧ bj = bg ∧ ∀ p, p < j → frS v (T - (k + 1)) b p → m + 1 + mxF v P T k (b ||| 2 ^ p) < c) ∨
   ∃ p, p < j ∧ frS v (T - (k + 1)) b p ∧ cj = m + 1 + mxF v P T k (b ||| 2 ^ p) + 1 ∧ c ≤ m + 1 + mxF v P T k (b ||| 2 ^ p) ∧ (∀ p', p' < p → frS v (T - (k + 1)) b p' → mxF v P T k (b ||| 2 ^ p') < mxF v P T k (b ||| 2 ^ p)) ∧ (∀ p', p' < j → frS v (T - (k + 1)) b p' → mxF v P T k (b ||| 2 ^ p') ≤ mxF v P T k (b ||| 2 ^ p)) ∧ ∀ i, i < T → bj i = if i < T - (k + 1) then gi i else if i = T - (k + 1) then nI p else gsF v P T k (b ||| 2 ^ p) i
def GI (v : SV) (P T k b m c : Nat) (gi bg : Nat → Int32) (j cj : Nat) (gj bj : Nat → Int32) : Prop :=
  (∀ i, i < T - (k + 1) → gj i = gi i) ∧ GJ v P T k b m c gi bg j cj bj
def MX3 (x a : Nat) (f : Nat → Nat) (q : Nat → Prop) (n : Nat) : Prop := x = a ∨ ∃ p, p < n ∧ q p ∧ x = f p
theorem gives_n {v : SV} {P T : Nat} {ss : Nat → Int32} (hr : RR v (-9) ss) (w : WF v P T) {k d : Nat} (hk : k + 1 ≤ T) (ih : GV v P T ss k d) : GV v P T ss (k + 1) (d + 1) := by
  intro gi bg c b m hb hc hm
  have hP := w.1
  have hT := w.2.1
  show ∃ gi' bg', N_X4_gives (M_X4_gives d) ss gi bg (nI c - 1) (nI (T - (k + 1))) (nI b) (nI m) = _ ∧ _
  unfold GV at ih
  generalize M_X4_gives d = self at ih ⊢
  unfold N_X4_gives
  rw [hr.th, w.2.2.2.1, if_eq (by omega) (by omega), if_neg (show ¬ T - (k + 1) = T by omega)]
  have ek : T - (k + 1) + 1 = T - k := by omega
  have key := fuelP (fun _ _ _ _ => none) (B_X4_gives_58 self (nI (T - (k + 1))) (nI b) (nI m) ss) (fun n f => ∀ (j cj : Nat) (gj bj : Nat → Int32), j ≤ P → P - j < n → cj ≤ 10 → GI v P T k b m c gi bg j cj gj bj → ∃ gi' bg', f (nI j) gj bj (nI cj - 1) = some (gi', bg', nI (nxN c (m + mxF v P T (k + 1) b)) - 1) ∧ (∀ i, i < T - (k + 1) → gi' i = gi i) ∧ (c ≤ m + mxF v P T (k + 1) b → ∀ i, i < T → bg' i = if i < T - (k + 1) then gi i else gsF v P T (k + 1) b i) ∧ (¬ c ≤ m + mxF v P T (k + 1) b → bg' = bg)) (fun i _ _ _ _ h => absurd h (Nat.not_lt_zero _)) (fun n f hf j cj gj bj hj hn hcj hI => by
    unfold B_X4_gives_58
    rw [hr.pe, w.2.2.1, if_le (by omega) (by omega)]
    obtain ⟨hg, hI⟩ := hI
    by_cases hh : P ≤ j
    · have hjP : j = P := by omega
      subst hjP
      obtain ⟨gi', bg', e, g1, g2, g3⟩ := ih (upd gj (T - (k + 1)) (-9)) bj cj b m hb hcj (by omega)
      rw [if_pos hh, chk_nI (by omega) (by omega), nI_clamp (by omega), ad1, ek, e, b3s]
      have hgl : ∀ i, i < T - (k + 1) → gi' i = gi i := fun i hi => by rw [g1 i (by omega), up_n (by omega)]; exact hg i hi
      obtain ⟨m1, m2, m3⟩ := mxl_ge (f := fun p => 1 + mxF v j T k (b ||| 2 ^ p)) (q := frS v (T - (k + 1)) b) (a := mxF v j T k b) j
      rw [← mxF_s] at m1 m2 m3
      replace m3 : MX3 (mxF v j T (k + 1) b) (mxF v j T k b) (fun p => 1 + mxF v j T k (b ||| 2 ^ p)) (frS v (T - (k + 1)) b) j := m3
      -- nobody: the last choice
      have nob : mxF v j T (k + 1) b = mxF v j T k b → (∀ p, p < j → frS v (T - (k + 1)) b p → 1 + mxF v j T k (b ||| 2 ^ p) < mxF v j T (k + 1) b) → cj ≤ m + mxF v j T k b → ∀ i, i < T → bg' i = if i < T - (k + 1) then gi i else gsF v j T (k + 1) b i := fun e1 e2 e3 i hi => by
        rw [g2 e3 i hi, gsF_s]
        have en : gcF v j T k b = none := by
          cases hx : gcF v j T k b with
          | none => rfl
          | some p =>
            obtain ⟨-, q1, q2, -⟩ := fnd_some hx
            have := e2 p (by omega) q2.1
            have := q2.2
            omega
        unfold bzF
        rw [en]
        by_cases h1 : i < T - (k + 1)
        · rw [if_pos (show i < T - k by omega), if_pos h1, up_n (by omega)]; exact hg i h1
        · rw [if_neg h1]
          by_cases h2 : i = T - (k + 1)
          · rw [if_pos h2, if_pos (show i < T - k by omega), h2, up_s]; rfl
          · rw [if_neg h2, if_neg (show ¬ i < T - k by omega)]
      rcases hI with ⟨rfl, rfl, h3⟩ | ⟨p, p1, p2, rfl, p4, p5, p6, p7⟩
      · by_cases hc1 : cj ≤ m + mxF v j T k b
        · have e1 : mxF v j T (k + 1) b = mxF v j T k b := by
            rcases m3 with e | ⟨p, q1, q2, e⟩
            · exact e
            · have := h3 p q1 q2
              have := m1
              have e' : mxF v j T (k + 1) b = 1 + mxF v j T k (b ||| 2 ^ p) := e
              omega
          refine ⟨gi', bg', by rw [e1], hgl, fun _ => nob e1 (fun p q1 q2 => ?_) hc1, fun x => absurd (by omega) x⟩
          have := h3 p q1 q2
          omega
        · have e1 : ¬ cj ≤ m + mxF v j T (k + 1) b := by
            rcases m3 with e | ⟨p, q1, q2, e⟩
            · omega
            · have := h3 p q1 q2
              have e' : mxF v j T (k + 1) b = 1 + mxF v j T k (b ||| 2 ^ p) := e
              omega
          refine ⟨gi', bg', ?_, hgl, fun x => absurd x e1, fun _ => g3 hc1⟩
          unfold nxN
          rw [if_neg hc1, if_neg e1]
      · have m2p : 1 + mxF v j T k (b ||| 2 ^ p) ≤ mxF v j T (k + 1) b := m2 p p1 p2
        have hc2 : c ≤ m + mxF v j T (k + 1) b := by omega
        by_cases hc1 : m + 1 + mxF v j T k (b ||| 2 ^ p) + 1 ≤ m + mxF v j T k b
        · have e1 : mxF v j T (k + 1) b = mxF v j T k b := by
            rcases m3 with e | ⟨p', q1, q2, e⟩
            · exact e
            · have := p6 p' q1 q2
              have e' : mxF v j T (k + 1) b = 1 + mxF v j T k (b ||| 2 ^ p') := e
              omega
          refine ⟨gi', bg', ?_, hgl, fun _ => nob e1 (fun p' q1 q2 => ?_) hc1, fun x => absurd hc2 x⟩
          · unfold nxN
            rw [if_pos hc1, if_pos hc2, e1]
          · have := p6 p' q1 q2
            omega
        · have e1 : mxF v j T (k + 1) b = 1 + mxF v j T k (b ||| 2 ^ p) := by
            rcases m3 with e | ⟨p', q1, q2, e⟩
            · omega
            · have := p6 p' q1 q2
              have e' : mxF v j T (k + 1) b = 1 + mxF v j T k (b ||| 2 ^ p') := e
              omega
          have en : gcF v j T k b = some p := by
            cases hx : gcF v j T k b with
            | none => exact absurd ⟨p2, e1.symm⟩ (fnd_none hx p (Nat.zero_le _) (by omega))
            | some p' =>
              obtain ⟨-, q1, q2, q3⟩ := fnd_some hx
              have q2b := q2.2
              rcases Nat.lt_trichotomy p' p with l | l | l
              · have := p5 p' l q2.1
                omega
              · rw [l]
              · exact absurd ⟨p2, e1.symm⟩ (q3 p (Nat.zero_le _) l)
          refine ⟨gi', bg', ?_, hgl, fun _ i hi => ?_, fun x => absurd hc2 x⟩
          · unfold nxN
            rw [if_neg hc1, if_pos hc2, e1, show m + (1 + mxF v j T k (b ||| 2 ^ p)) + 1 = m + 1 + mxF v j T k (b ||| 2 ^ p) + 1 by omega]
          · rw [g3 hc1, p7 i hi, gsF_s]
            unfold bzF
            rw [en]
            by_cases h1 : i < T - (k + 1)
            · rw [if_pos h1, if_pos h1]
            · rw [if_neg h1, if_neg h1]
              by_cases h2 : i = T - (k + 1)
              · rw [if_pos h2, if_pos h2]; rfl
              · rw [if_neg h2, if_neg h2]
    · have hb5 : j < 6 := by omega
      rw [if_neg hh, ad1]
      have skip : ¬ frS v (T - (k + 1)) b j → ∃ gi' bg', f (nI (j + 1)) gj bj (nI cj - 1) = some (gi', bg', nI (nxN c (m + mxF v P T (k + 1) b)) - 1) ∧ (∀ i, i < T - (k + 1) → gi' i = gi i) ∧ (c ≤ m + mxF v P T (k + 1) b → ∀ i, i < T → bg' i = if i < T - (k + 1) then gi i else gsF v P T (k + 1) b i) ∧ (¬ c ≤ m + mxF v P T (k + 1) b → bg' = bg) := fun hq => by
        refine hf (j + 1) cj gj bj (by omega) (by omega) hcj ⟨hg, ?_⟩
        rcases hI with ⟨h1, h2, h3⟩ | ⟨p, p1, p2, p3, p4, p5, p6, p7⟩
        · refine Or.inl ⟨h1, h2, fun p q1 q2 => ?_⟩
          by_cases e : p = j
          · subst e; exact absurd q2 hq
          · exact h3 p (by omega) q2
        · refine Or.inr ⟨p, by omega, p2, p3, p4, p5, fun p' q1 q2 => ?_, p7⟩
          by_cases e : p' = j
          · subst e; exact absurd q2 hq
          · exact p6 p' (by omega) q2
      have hhas : M_X4_has (nI b) (nI j) = some (if b.testBit j then 1 else 0) := has_m b hb j hb5
      rw [hhas, b1s]
      by_cases hq1 : b.testBit j = true
      · rw [if_pos hq1, if_neg (show ¬ (1 : Int32) = 0 by decide)]
        exact skip (fun q => by rw [q.1] at hq1; exact absurd hq1 (by decide))
      · rw [if_neg hq1, if_pos rfl, may_m hr w (by omega) (show T - (k + 1) < T by omega), b1s]
        by_cases hq2 : mmS v j (T - (k + 1))
        · have hq : frS v (T - (k + 1)) b j := ⟨by simpa using hq1, hq2⟩
          obtain ⟨o1, o2⟩ := orb b hb j hb5
          have hle := mxF_le v P T k (b ||| 2 ^ j)
          obtain ⟨gi', bg', e, g1, g2, g3⟩ := ih (upd gj (T - (k + 1)) (nI j)) bj cj (b ||| 2 ^ j) (m + 1) o2 hcj (by omega)
          rw [if_pos hq2, if_neg (show ¬ (1 : Int32) = 0 by decide), chk_nI (by omega) (by omega), nI_clamp (by omega), ad1, ad1, ek, o1, e, b3s]
          refine hf (j + 1) _ _ _ (by omega) (by omega) (by unfold nxN; split <;> omega) ⟨fun i hi => by rw [g1 i (by omega), up_n (by omega)]; exact hg i hi, ?_⟩
          have bgj : cj ≤ m + 1 + mxF v P T k (b ||| 2 ^ j) → ∀ i, i < T → bg' i = if i < T - (k + 1) then gi i else if i = T - (k + 1) then nI j else gsF v P T k (b ||| 2 ^ j) i := fun hc1 i hi => by
            rw [g2 hc1 i hi]
            by_cases h1 : i < T - (k + 1)
            · rw [if_pos (show i < T - k by omega), if_pos h1, up_n (by omega)]; exact hg i h1
            · rw [if_neg h1]
              by_cases h2 : i = T - (k + 1)
              · rw [if_pos h2, if_pos (show i < T - k by omega), h2, up_s]
              · rw [if_neg h2, if_neg (show ¬ i < T - k by omega)]
          rcases hI with ⟨rfl, rfl, h3⟩ | ⟨p, p1, p2, p3, p4, p5, p6, p7⟩
          · by_cases hc1 : cj ≤ m + 1 + mxF v P T k (b ||| 2 ^ j)
            · refine Or.inr ⟨j, by omega, hq, by unfold nxN; rw [if_pos hc1], hc1, fun p' q1 q2 => ?_, fun p' q1 q2 => ?_, bgj hc1⟩
              · have := h3 p' q1 q2
                omega
              · by_cases e : p' = j
                · subst e; exact Nat.le_refl _
                · have := h3 p' (by omega) q2
                  omega
            · refine Or.inl ⟨by unfold nxN; rw [if_neg hc1], g3 hc1, fun p' q1 q2 => ?_⟩
              by_cases e : p' = j
              · subst e; omega
              · exact h3 p' (by omega) q2
          · by_cases hc1 : cj ≤ m + 1 + mxF v P T k (b ||| 2 ^ j)
            · refine Or.inr ⟨j, by omega, hq, by unfold nxN; rw [if_pos hc1], by omega, fun p' q1 q2 => ?_, fun p' q1 q2 => ?_, bgj hc1⟩
              · have := p6 p' q1 q2
                omega
              · by_cases e : p' = j
                · subst e; exact Nat.le_refl _
                · have := p6 p' (by omega) q2
                  omega
            · refine Or.inr ⟨p, by omega, p2, by unfold nxN; rw [if_neg hc1]; exact p3, p4, p5, fun p' q1 q2 => ?_, by rw [g3 hc1]; exact p7⟩
              by_cases e : p' = j
              · subst e; omega
              · exact p6 p' (by omega) q2
        · rw [if_neg hq2, if_pos rfl]
          exact skip (fun q => hq2 q.2)) FU
  exact key 0 c gi bg (Nat.zero_le _) (by rw [FU_eq]; omega) hc ⟨fun _ _ => rfl, Or.inl ⟨rfl, rfl, fun p h => absurd h (Nat.not_lt_zero _)⟩⟩
theorem gives_m {v : SV} {P T : Nat} {ss : Nat → Int32} (hr : RR v (-9) ss) (w : WF v P T) : ∀ k d, k ≤ T → k + 1 ≤ d → GV v P T ss k d
  | 0, d, _, hd => by
    obtain ⟨e, rfl⟩ : ∃ e, d = e + 1 := ⟨d - 1, by omega⟩
    exact gives_0 hr w e
  | k + 1, d, hk, hd => by
    obtain ⟨e, rfl⟩ : ∃ e, d = e + 1 := ⟨d - 1, by omega⟩
    exact gives_n hr w hk (gives_m hr w k e (by omega) (by omega))
theorem eq_together {no : SV} {ss rf re : Nat → Int32} (h : ST no ss) (q : RF rf re) (be gi bg : Nat → Int32) (bm a : Int32) : ∃ r rf' be' re' gi' bg' bm', M_X3_together no rf be a = some (r, rf', be') ∧ M_X4_together ss re gi bg bm a = some (r, re', gi', bg', bm') ∧ RF rf' re' := by
  obtain ⟨P, T, d, w, hd, hd2, hr⟩ := id h
  have hT := w.2.1
  obtain ⟨be', hB, eB⟩ := fill_c w be
  obtain ⟨gi', bg', eg, -, g2, -⟩ := gives_m hr w T 11 (Nat.le_refl _) (by omega) gi bg 0 0 0 (by omega) (by omega) (by omega)
  have hm := mxF_le no P T T 0
  rw [Nat.sub_self, Nat.zero_add, show nxN 0 (mxF no P T T 0) = mxF no P T T 0 + 1 from rfl, ← bm_up _ (by omega)] at eg
  have eg' : M_X4_gives 11 ss gi bg (-1) 0 0 0 = some (gi', bg', nI (mxF no P T T 0)) := eg
  have g2' : ∀ i, i < T → bg' i = gsF no P T T 0 i := fun i hi => by
    rw [g2 (Nat.zero_le _) i hi, Nat.sub_self, if_neg (Nat.not_lt_zero _)]
  unfold M_X3_together M_X4_together M_X1_most
  rw [isT_c, chkc, isT_m hr w, chkc, eB, b1s, b1s, eg', b3s]
  by_cases h1 : a = -1
  · subst h1
    rw [if_pos rfl, if_pos rfl, if_pos rfl, if_neg (show ¬ (0 : Int32) ≤ -1 by decide)]
    have e0 : be' 0 = nI (mxF no P T T 0) := hB 0 (Nat.zero_le _) (Nat.zero_le _) 0 (by omega)
    rw [e0]
    exact ⟨_, _, _, _, _, _, _, rfl, rfl, q⟩
  · rw [if_neg h1, if_neg h1, if_neg h1]
    by_cases ht : 0 ≤ a ∧ a < sTh no
    · rw [if_pos ht, if_pos ht, if_pos ht.1]
      rw [w.2.2.2.1] at ht
      obtain ⟨t, ht1, rfl⟩ := ix_of (by omega) ht
      rw [menderOf_c w hB ht1, b1s, chk_nI (by omega) (by omega), nI_clamp (by omega), g2' t ht1]
      exact ⟨_, _, _, _, _, _, _, rfl, rfl, q⟩
    · rw [if_neg ht, if_neg ht]
      obtain ⟨rf', re', e1, e2, q'⟩ := refu q (c := -1) (by decide)
      rw [e1, e2, b2s, b2s]
      exact ⟨_, _, _, _, _, _, _, rfl, rfl, q'⟩
