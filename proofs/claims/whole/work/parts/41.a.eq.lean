/-! ## each public method: the class' and the reference's answer are one -/
theorem z10 : ((1 : Int32) = 0) = False := eq_false (by decide)
theorem z00 : ((0 : Int32) = 0) = True := eq_true rfl
theorem chkc {γ : Type} {c : Prop} [Decidable c] (X Y : Option γ) : bnd1 (some (if c then (1 : Int32) else 0)) (fun r => if r = 0 then X else Y) = if c then Y else X := by
  by_cases h : c
  · rw [if_pos h, if_pos h]; rfl
  · rw [if_neg h, if_neg h]; rfl
/-- the refusals of both -/
def RF (rf re : Nat → Int32) : Prop := ∀ i, 1 ≤ i → i ≤ 6 → rf i = re i
theorem RF.up {rf re : Nat → Int32} (h : RF rf re) (n : Nat) (h1 : 1 ≤ n) (h6 : n ≤ 6) : RF (upd rf n (rf n + 1)) (upd re n (re n + 1)) := by
  intro i a b
  by_cases e : i = n
  · subst e; rw [up_s, up_s, h i a b]
  · rw [up_n e, up_n e]; exact h i a b
theorem refu {rf re : Nat → Int32} (q : RF rf re) {c : Int32} (hc : c = -1 ∨ c = -2 ∨ c = -3 ∨ c = -4 ∨ c = -6) : ∃ rf' re', M_X3_refuse rf c = some (c, rf') ∧ M_X4_no re c = some (c, re') ∧ RF rf' re' := by
  rcases hc with rfl | rfl | rfl | rfl | rfl
  · exact ⟨_, _, rfl, rfl, q.up 1 (by omega) (by omega)⟩
  · exact ⟨_, _, rfl, rfl, q.up 2 (by omega) (by omega)⟩
  · exact ⟨_, _, rfl, rfl, q.up 3 (by omega) (by omega)⟩
  · exact ⟨_, _, rfl, rfl, q.up 4 (by omega) (by omega)⟩
  · exact ⟨_, _, rfl, rfl, q.up 6 (by omega) (by omega)⟩
/-- the state that is so, in both -/
def ST (no : SV) (ss : Nat → Int32) : Prop := ∃ P T d : Nat, WF no P T ∧ sDa no = nI d ∧ d ≤ 999 ∧ RR no (-9) ss
theorem rng {x : Int32} {a b : Nat} (hb : b < 2 ^ 31) (h1 : nI a ≤ x) (h2 : x ≤ nI b) (ha : a < 2 ^ 31) : ∃ k : Nat, a ≤ k ∧ k ≤ b ∧ x = nI k := by
  have h0 : ¬ x < 0 := fun h => by
    have h3 := Int32.lt_iff_toInt_lt.mp (Int32.lt_of_le_of_lt h1 h)
    rw [nI_toInt ha] at h3
    have : (0 : Int32).toInt = 0 := rfl
    omega
  obtain ⟨k, hk, rfl⟩ := nI_of h0
  exact ⟨k, (nI_leI ha hk).mp h1, (nI_leI hk hb).mp h2, rfl⟩
theorem outside_c (x lo hi : Int32) : M_X3_outside x lo hi = some (if lo ≤ x then (if x ≤ hi then 0 else -6) else -4) := by
  unfold M_X3_outside
  split
  · split <;> rfl
  · rfl
theorem wrongBy_m (x hi : Int32) : M_X4_wrongBy x hi = some (if 0 ≤ x then (if x ≤ hi then 0 else -6) else -4) := by
  unfold M_X4_wrongBy
  split
  · split <;> rfl
  · rfl
theorem wrongBreak_m {v : SV} {r : Nat → Int32} {i : Int32} (h : RR v i r) {P T : Nat} (w : WF v P T) (x b : Int32) : M_X4_wrongBreak r x b = if b = 0 then some (-1) else if 0 ≤ x ∧ x < sTh v then bnd1 (M_X4_isWhole r x) (fun q => if q = 0 then some (-3) else some 0) else some (-1) := by
  unfold M_X4_wrongBreak
  rw [isT_m h w, chkc]
theorem become_c (v o : SV) : M_X2_become v o = some o := rfl
theorem copies_m (r r2 : Nat → Int32) : M_X4_copies r r2 = some r := rfl
/-! breaks, rusts -/
theorem eq_breaks {no : SV} {ss rf re : Nat → Int32} (h : ST no ss) (q : RF rf re) (a b : Int32) : ∃ r no' rf' ss' re', M_X3_breaks no rf a b = some (r, no', rf') ∧ M_X4_breaks ss re a b = some (r, ss', re') ∧ ST no' ss' ∧ RF rf' re' := by
  obtain ⟨P, T, d, w, hd, hd2, hr⟩ := id h
  have hP := w.1
  have hT := w.2.1
  unfold M_X3_breaks M_X4_breaks
  rw [isP_c, chkc, isT_c, chkc, isP_m hr w, b1s, wrongBreak_m hr w]
  by_cases hp : 0 ≤ a ∧ a < sPe no
  · rw [if_pos hp, if_pos hp, if_neg (show ¬ (1 : Int32) = 0 by decide)]
    by_cases ht : 0 ≤ b ∧ b < sTh no
    · rw [if_pos ht, if_pos ht]
      rw [w.2.2.1] at hp
      rw [w.2.2.2.1] at ht
      obtain ⟨p, hp1, rfl⟩ := ix_of (by omega) hp
      obtain ⟨t, ht1, rfl⟩ := ix_of (by omega) ht
      rw [isWhole_c no (by omega), isWhole_m ss (by omega), hr.br (by omega), chkc, chkc]
      by_cases hw : sBr no t = -9
      · rw [if_pos hw, if_pos hw, chk_nI (by omega) (by omega), nI_clamp (by omega), b1s, if_pos rfl, ofT_nI, b1s, ad4, chk_nI (by omega) (by omega), nI_clamp (by omega)]
        have w' : WF (sUBr no (upd (sBr no) t (nI p))) P T := w.uBr t (Or.inr (Or.inr ⟨p, hp1, rfl⟩))
        have r' := hr.uBr t (by omega) (nI p)
        rw [wholeCount_c w', b1s, wholeSet_m r' w', b1s, bitsW_m w', b1s]
        exact ⟨_, _, _, _, _, rfl, rfl, ⟨P, T, d, w', hd, hd2, r'⟩, q⟩
      · rw [if_neg hw, if_neg hw, b1s, if_neg (show ¬ (-3 : Int32) = 0 by decide)]
        obtain ⟨rf', re', e1, e2, q'⟩ := refu q (c := -3) (by decide)
        rw [e1, e2, b2s, b2s]
        exact ⟨_, _, _, _, _, rfl, rfl, h, q'⟩
    · rw [if_neg ht, if_neg ht, b1s, if_neg (show ¬ (-1 : Int32) = 0 by decide)]
      obtain ⟨rf', re', e1, e2, q'⟩ := refu q (c := -1) (by decide)
      rw [e1, e2, b2s, b2s]
      exact ⟨_, _, _, _, _, rfl, rfl, h, q'⟩
  · rw [if_neg hp, if_neg hp, if_pos rfl, b1s, if_neg (show ¬ (-1 : Int32) = 0 by decide)]
    obtain ⟨rf', re', e1, e2, q'⟩ := refu q (c := -1) (by decide)
    rw [e1, e2, b2s, b2s]
    exact ⟨_, _, _, _, _, rfl, rfl, h, q'⟩
theorem eq_rusts {no : SV} {ss rf re : Nat → Int32} (h : ST no ss) (q : RF rf re) (b : Int32) : ∃ r no' rf' ss' re', M_X3_rusts no rf b = some (r, no', rf') ∧ M_X4_rusts ss re b = some (r, ss', re') ∧ ST no' ss' ∧ RF rf' re' := by
  obtain ⟨P, T, d, w, hd, hd2, hr⟩ := id h
  have hP := w.1
  have hT := w.2.1
  unfold M_X3_rusts M_X4_rusts
  rw [isT_c, chkc, wrongBreak_m hr w, if_neg (show ¬ (1 : Int32) = 0 by decide)]
  by_cases ht : 0 ≤ b ∧ b < sTh no
  · rw [if_pos ht, if_pos ht]
    rw [w.2.2.2.1] at ht
    obtain ⟨t, ht1, rfl⟩ := ix_of (by omega) ht
    rw [isWhole_c no (by omega), isWhole_m ss (by omega), hr.br (by omega), chkc, chkc]
    by_cases hw : sBr no t = -9
    · rw [if_pos hw, if_pos hw, chk_nI (by omega) (by omega), nI_clamp (by omega), b1s, if_pos rfl, ofT_nI, b1s, ad4, chk_nI (by omega) (by omega), nI_clamp (by omega)]
      have w' : WF (sUBr no (upd (sBr no) t (-8))) P T := w.uBr t (Or.inr (Or.inl rfl))
      have r' := hr.uBr t (by omega) (-8)
      rw [wholeCount_c w', b1s, wholeSet_m r' w', b1s, bitsW_m w', b1s]
      exact ⟨_, _, _, _, _, rfl, rfl, ⟨P, T, d, w', hd, hd2, r'⟩, q⟩
    · rw [if_neg hw, if_neg hw, b1s, if_neg (show ¬ (-3 : Int32) = 0 by decide)]
      obtain ⟨rf', re', e1, e2, q'⟩ := refu q (c := -3) (by decide)
      rw [e1, e2, b2s, b2s]
      exact ⟨_, _, _, _, _, rfl, rfl, h, q'⟩
  · rw [if_neg ht, if_neg ht, b1s, if_neg (show ¬ (-1 : Int32) = 0 by decide)]
    obtain ⟨rf', re', e1, e2, q'⟩ := refu q (c := -1) (by decide)
    rw [e1, e2, b2s, b2s]
    exact ⟨_, _, _, _, _, rfl, rfl, h, q'⟩
/-! mends -/
theorem eq_mends {no : SV} {ss rf re : Nat → Int32} (h : ST no ss) (q : RF rf re) (a b : Int32) : ∃ r no' rf' ss' re', M_X3_mends no rf a b = some (r, no', rf') ∧ M_X4_mends ss re a b = some (r, ss', re') ∧ ST no' ss' ∧ RF rf' re' := by
  obtain ⟨P, T, d, w, hd, hd2, hr⟩ := id h
  have hP := w.1
  have hT := w.2.1
  unfold M_X3_mends M_X4_mends
  rw [isP_c, chkc, isT_c, chkc, isP_m hr w, chkc, isT_m hr w, chkc]
  by_cases hp : 0 ≤ a ∧ a < sPe no
  · rw [if_pos hp, if_pos hp]
    by_cases ht : 0 ≤ b ∧ b < sTh no
    · rw [if_pos ht, if_pos ht]
      rw [w.2.2.1] at hp
      rw [w.2.2.2.1] at ht
      obtain ⟨p, hp1, rfl⟩ := ix_of (by omega) hp
      obtain ⟨t, ht1, rfl⟩ := ix_of (by omega) ht
      rw [may_c w hp1 ht1, may_m hr w hp1 ht1, chkc, chkc]
      by_cases hm : mmS no p t
      · have w' := mdS_wf w p t
        obtain ⟨r1, r', e⟩ := mendsIn_m hr (p := p) (t := t) (by omega) (by omega)
        rw [if_pos hm, if_pos hm, mend_c no (by omega) (by omega), b1s, wholeCount_c w', b1s, e, b1s, wholeSet_m r' w', b1s, bitsW_m w', b1s]
        exact ⟨_, _, _, _, _, rfl, rfl, ⟨P, T, d, w', hd, hd2, r'⟩, q⟩
      · rw [if_neg hm, if_neg hm]
        obtain ⟨rf', re', e1, e2, q'⟩ := refu q (c := -3) (by decide)
        rw [e1, e2, b2s, b2s]
        exact ⟨_, _, _, _, _, rfl, rfl, h, q'⟩
    · rw [if_neg ht, if_neg ht]
      obtain ⟨rf', re', e1, e2, q'⟩ := refu q (c := -1) (by decide)
      rw [e1, e2, b2s, b2s]
      exact ⟨_, _, _, _, _, rfl, rfl, h, q'⟩
  · rw [if_neg hp, if_neg hp]
    obtain ⟨rf', re', e1, e2, q'⟩ := refu q (c := -1) (by decide)
    rw [e1, e2, b2s, b2s]
    exact ⟨_, _, _, _, _, rfl, rfl, h, q'⟩
/-! wears, skill, turn -/
theorem WF.uFi {v : SV} {P T : Nat} (w : WF v P T) (t a : Nat) (ha : a ≤ 9) : WF (sUFi v (upd (sFi v) t (nI a))) P T := by
  refine ⟨w.1, w.2.1, w.2.2.1, w.2.2.2.1, fun u hu => ?_⟩
  obtain ⟨h1, h2, h3, h4⟩ := w.2.2.2.2 u hu
  refine ⟨h1, h2, h3, ?_⟩
  show ∃ b : Nat, b ≤ 9 ∧ upd (sFi v) t (nI a) u = nI b
  by_cases e : u = t
  · subst e; exact ⟨a, ha, up_s⟩
  · rw [up_n e]; exact h4
theorem lim_cases (v : Int32) (b : Nat) (hb : b < 2 ^ 31) : (∃ k : Nat, k ≤ b ∧ v = nI k ∧ (0 ≤ v) ∧ v ≤ nI b) ∨ ((0 ≤ v) ∧ ¬ v ≤ nI b) ∨ ¬ 0 ≤ v := by
  by_cases h : 0 ≤ v
  · by_cases h2 : v ≤ nI b
    · obtain ⟨k, -, hk, e⟩ := rng (a := 0) hb h h2 (by omega)
      exact Or.inl ⟨k, hk, e, h, h2⟩
    · exact Or.inr (Or.inl ⟨h, h2⟩)
  · exact Or.inr (Or.inr h)
theorem eq_wears {no : SV} {ss rf re : Nat → Int32} (h : ST no ss) (q : RF rf re) (a b : Int32) : ∃ r no' rf' ss' re', M_X3_wears no rf a b = some (r, no', rf') ∧ M_X4_wears ss re a b = some (r, ss', re') ∧ ST no' ss' ∧ RF rf' re' := by
  obtain ⟨P, T, d, w, hd, hd2, hr⟩ := id h
  have hT := w.2.1
  unfold M_X3_wears M_X4_wears
  rw [isT_c, chkc, isT_m hr w, chkc, outside_c, b1s, wrongBy_m, b1s]
  by_cases ht : 0 ≤ a ∧ a < sTh no
  · rw [if_pos ht, if_pos ht]
    rw [w.2.2.2.1] at ht
    obtain ⟨t, ht1, rfl⟩ := ix_of (by omega) ht
    rcases lim_cases b 9 (by omega) with ⟨k, hk, rfl, h1, h2⟩ | ⟨h1, h2⟩ | h1
    · rw [if_pos h1, if_pos (show nI k ≤ 9 from h2), if_pos rfl, if_pos rfl, chk_nI (by omega) (by omega), chk_nI (by omega) (by omega), nI_clamp (by omega)]
      simp only [ofT_nI, b1s, ad3]
      rw [chk_nI (by omega) (by omega), chk_nI (by omega) (by omega), nI_clamp (by omega), hr.we (by omega)]
      exact ⟨_, _, _, _, _, rfl, rfl, ⟨P, T, d, w.uWe t k hk, hd, hd2, hr.uWe t (by omega) (nI k)⟩, q⟩
    · rw [if_pos h1, if_neg (show ¬ b ≤ 9 from h2), if_neg (show ¬ (-6 : Int32) = 0 by decide), if_neg (show ¬ (-6 : Int32) = 0 by decide)]
      obtain ⟨rf', re', e1, e2, q'⟩ := refu q (c := -6) (by decide)
      rw [e1, e2, b2s, b2s]
      exact ⟨_, _, _, _, _, rfl, rfl, h, q'⟩
    · rw [if_neg h1, if_neg (show ¬ (-4 : Int32) = 0 by decide), if_neg (show ¬ (-4 : Int32) = 0 by decide)]
      obtain ⟨rf', re', e1, e2, q'⟩ := refu q (c := -4) (by decide)
      rw [e1, e2, b2s, b2s]
      exact ⟨_, _, _, _, _, rfl, rfl, h, q'⟩
  · rw [if_neg ht, if_neg ht]
    obtain ⟨rf', re', e1, e2, q'⟩ := refu q (c := -1) (by decide)
    rw [e1, e2, b2s, b2s]
    exact ⟨_, _, _, _, _, rfl, rfl, h, q'⟩
theorem eq_skill {no : SV} {ss rf re : Nat → Int32} (h : ST no ss) (q : RF rf re) (a b : Int32) : ∃ r no' rf' ss' re', M_X3_skill no rf a b = some (r, no', rf') ∧ M_X4_skill ss re a b = some (r, ss', re') ∧ ST no' ss' ∧ RF rf' re' := by
  obtain ⟨P, T, d, w, hd, hd2, hr⟩ := id h
  have hP := w.1
  unfold M_X3_skill M_X4_skill
  rw [isP_c, chkc, isP_m hr w, chkc, outside_c, b1s, wrongBy_m, b1s]
  by_cases ht : 0 ≤ a ∧ a < sPe no
  · rw [if_pos ht, if_pos ht]
    rw [w.2.2.1] at ht
    obtain ⟨t, ht1, rfl⟩ := ix_of (by omega) ht
    rcases lim_cases b 9 (by omega) with ⟨k, hk, rfl, h1, h2⟩ | ⟨h1, h2⟩ | h1
    · rw [if_pos h1, if_pos (show nI k ≤ 9 from h2), if_pos rfl, if_pos rfl, chk_nI (by omega) (by omega), chk_nI (by omega) (by omega), nI_clamp (by omega)]
      simp only [ofP_nI, b1s, ad0]
      rw [chk_nI (by omega) (by omega), chk_nI (by omega) (by omega), nI_clamp (by omega), hr.sk (by omega)]
      exact ⟨_, _, _, _, _, rfl, rfl, ⟨P, T, d, w, hd, hd2, hr.uSk t (by omega) (nI k)⟩, q⟩
    · rw [if_pos h1, if_neg (show ¬ b ≤ 9 from h2), if_neg (show ¬ (-6 : Int32) = 0 by decide), if_neg (show ¬ (-6 : Int32) = 0 by decide)]
      obtain ⟨rf', re', e1, e2, q'⟩ := refu q (c := -6) (by decide)
      rw [e1, e2, b2s, b2s]
      exact ⟨_, _, _, _, _, rfl, rfl, h, q'⟩
    · rw [if_neg h1, if_neg (show ¬ (-4 : Int32) = 0 by decide), if_neg (show ¬ (-4 : Int32) = 0 by decide)]
      obtain ⟨rf', re', e1, e2, q'⟩ := refu q (c := -4) (by decide)
      rw [e1, e2, b2s, b2s]
      exact ⟨_, _, _, _, _, rfl, rfl, h, q'⟩
  · rw [if_neg ht, if_neg ht]
    obtain ⟨rf', re', e1, e2, q'⟩ := refu q (c := -1) (by decide)
    rw [e1, e2, b2s, b2s]
    exact ⟨_, _, _, _, _, rfl, rfl, h, q'⟩
theorem eq_turn {no : SV} {ss rf re : Nat → Int32} (h : ST no ss) (q : RF rf re) (a x b : Int32) : ∃ r no' rf' ss' re', M_X3_turn no rf a x b = some (r, no', rf') ∧ M_X4_turn ss re a x b = some (r, ss', re') ∧ ST no' ss' ∧ RF rf' re' := by
  obtain ⟨P, T, d, w, hd, hd2, hr⟩ := id h
  have hT := w.2.1
  unfold M_X3_turn M_X4_turn
  rw [isT_c, chkc, isT_m hr w, chkc, outside_c, b1s, wrongBy_m, b1s, isIn_m]
  by_cases ht : 0 ≤ a ∧ a < sTh no
  · rw [if_pos ht, if_pos ht]
    rw [w.2.2.2.1] at ht
    obtain ⟨t, ht1, rfl⟩ := ix_of (by omega) ht
    by_cases hx : x < 0
    · rw [if_pos hx, if_pos hx, b1s, if_pos rfl]
      obtain ⟨rf', re', e1, e2, q'⟩ := refu q (c := -2) (by decide)
      rw [e1, e2, b2s, b2s]
      exact ⟨_, _, _, _, _, rfl, rfl, h, q'⟩
    · rw [if_neg hx, if_neg hx]
      have h56 : (x < 6) ↔ ¬ 5 < x := by
        rw [Int32.lt_iff_toInt_lt, Int32.lt_iff_toInt_lt, show (6 : Int32).toInt = 6 from rfl, show (5 : Int32).toInt = 5 from rfl]
        omega
      by_cases hx6 : x < 6
      · rw [if_pos hx6, if_neg (h56.mp hx6), b1s, if_neg (show ¬ (1 : Int32) = 0 by decide)]
        rcases lim_cases b 9 (by omega) with ⟨k, hk, rfl, h1, h2⟩ | ⟨h1, h2⟩ | h1
        · rw [if_pos h1, if_pos (show nI k ≤ 9 from h2), if_pos rfl, if_pos rfl]
          simp only [chk_nI (show t < 9 by omega) (show (9 : Nat) < 2 ^ 31 by decide), nI_clamp (show t < 2 ^ 31 by omega), ofT_nI, b1s, ad0, ad1]
          rw [chk_nI (by omega) (by omega), chk_nI (by omega) (by omega), chk_nI (by omega) (by omega), chk_nI (by omega) (by omega), nI_clamp (by omega), nI_clamp (by omega), hr.ki (by omega), hr.fi (by omega)]
          have w1 : WF (sUKi no (upd (sKi no) t x)) P T := w
          exact ⟨_, _, _, _, _, rfl, rfl, ⟨P, T, d, w1.uFi t k hk, hd, hd2, (hr.uKi t (by omega) x).uFi t (by omega) (nI k)⟩, q⟩
        · rw [if_pos h1, if_neg (show ¬ b ≤ 9 from h2), if_neg (show ¬ (-6 : Int32) = 0 by decide), if_neg (show ¬ (-6 : Int32) = 0 by decide)]
          obtain ⟨rf', re', e1, e2, q'⟩ := refu q (c := -6) (by decide)
          rw [e1, e2, b2s, b2s]
          exact ⟨_, _, _, _, _, rfl, rfl, h, q'⟩
        · rw [if_neg h1, if_neg (show ¬ (-4 : Int32) = 0 by decide), if_neg (show ¬ (-4 : Int32) = 0 by decide)]
          obtain ⟨rf', re', e1, e2, q'⟩ := refu q (c := -4) (by decide)
          rw [e1, e2, b2s, b2s]
          exact ⟨_, _, _, _, _, rfl, rfl, h, q'⟩
      · rw [if_neg hx6, if_pos (Classical.not_not.mp (mt h56.mpr hx6)), b1s, if_pos rfl]
        obtain ⟨rf', re', e1, e2, q'⟩ := refu q (c := -2) (by decide)
        rw [e1, e2, b2s, b2s]
        exact ⟨_, _, _, _, _, rfl, rfl, h, q'⟩
  · rw [if_neg ht, if_neg ht]
    obtain ⟨rf', re', e1, e2, q'⟩ := refu q (c := -1) (by decide)
    rw [e1, e2, b2s, b2s]
    exact ⟨_, _, _, _, _, rfl, rfl, h, q'⟩
/-! days; what is then -/
theorem eq_days {no : SV} {ss rf re : Nat → Int32} (h : ST no ss) (q : RF rf re) (a : Int32) : ∃ r no' rf' ss' re', M_X3_days no rf a = some (r, no', rf') ∧ M_X4_days ss re a = some (r, ss', re') ∧ ST no' ss' ∧ RF rf' re' := by
  obtain ⟨P, T, d, w, hd, hd2, hr⟩ := id h
  unfold M_X3_days M_X4_days
  rw [outside_c, b1s]
  by_cases h1 : 1 ≤ a
  · rw [if_pos h1, if_pos h1]
    by_cases h2 : a ≤ 60
    · obtain ⟨k, hk1, hk, rfl⟩ := rng (a := 1) (b := 60) (by omega) h1 h2 (by omega)
      rw [if_pos h2, if_neg (Int32.not_lt.mpr h2), if_pos rfl, hr.da, hd, nI_add, show (999 : Int32) = nI 999 from rfl, if_le (by omega) (by omega), if_le (by omega) (by omega)]
      by_cases h9 : d + k ≤ 999
      · rw [if_pos h9, if_pos h9]
        obtain ⟨w', hd'⟩ := itD_wf (P := P) (T := T) (x := 1) (by omega) (-9) k w hd (by omega)
        obtain ⟨r1, r', e⟩ := daysOn_m (P := P) (T := T) (N := k) (by omega) hr w hd (by omega)
        rw [show (1 : Int32) = nI 1 from rfl, pass_c (P := P) (T := T) (x := 1) (by omega) (-9) (N := k) (by omega) w hd (by omega), b1s, wholeCount_c w', b1s, e, b1s, wholeSet_m r' w', b1s, bitsW_m w', b1s]
        exact ⟨_, _, _, _, _, rfl, rfl, ⟨P, T, d + k, w', hd', h9, r'⟩, q⟩
      · rw [if_neg h9, if_neg h9]
        obtain ⟨rf', re', e1, e2, q'⟩ := refu q (c := -6) (by decide)
        rw [e1, e2, b2s, b2s]
        exact ⟨_, _, _, _, _, rfl, rfl, h, q'⟩
    · rw [if_neg h2, if_pos (Int32.not_le.mp h2), if_neg (show ¬ (-6 : Int32) = 0 by decide)]
      obtain ⟨rf', re', e1, e2, q'⟩ := refu q (c := -6) (by decide)
      rw [e1, e2, b2s, b2s]
      exact ⟨_, _, _, _, _, rfl, rfl, h, q'⟩
  · rw [if_neg h1, if_neg h1, if_neg (show ¬ (-4 : Int32) = 0 by decide)]
    obtain ⟨rf', re', e1, e2, q'⟩ := refu q (c := -4) (by decide)
    rw [e1, e2, b2s, b2s]
    exact ⟨_, _, _, _, _, rfl, rfl, h, q'⟩
theorem eq_wholeThen {no : SV} {ss rf re : Nat → Int32} (h : ST no ss) (q : RF rf re) (mi : SV) (mm : Nat → Int32) (a : Int32) : ∃ r mi' rf' mm' re', M_X3_wholeThen no mi rf a = some (r, mi', rf') ∧ M_X4_wholeThen ss mm re a = some (r, mm', re') ∧ RF rf' re' := by
  obtain ⟨P, T, d, w, hd, hd2, hr⟩ := id h
  unfold M_X3_wholeThen M_X4_wholeThen M_X4_takes
  rw [outside_c, b1s, wrongBy_m, b1s]
  rcases lim_cases a 99 (by omega) with ⟨k, hk, rfl, h1, h2⟩ | ⟨h1, h2⟩ | h1
  · obtain ⟨w', hd'⟩ := itD_wf (P := P) (T := T) (x := 1) (by omega) (-9) k w hd (by omega)
    obtain ⟨r1, r', e⟩ := daysOn_m (P := P) (T := T) (N := k) (by omega) hr w hd (by omega)
    rw [if_pos h1, if_pos (show nI k ≤ 99 from h2), if_pos rfl, if_pos rfl, become_c, b1s, copies_m, b1s, show (1 : Int32) = nI 1 from rfl, pass_c (P := P) (T := T) (x := 1) (by omega) (-9) (N := k) (by omega) w hd (by omega), b1s, wholeBits_c w', b1s, e, b1s, b1s, wholeSet_m r' w', b1s]
    exact ⟨_, _, _, _, _, rfl, rfl, q⟩
  · rw [if_pos h1, if_neg (show ¬ a ≤ 99 from h2), if_neg (show ¬ (-6 : Int32) = 0 by decide), if_neg (show ¬ (-6 : Int32) = 0 by decide)]
    obtain ⟨rf', re', e1, e2, q'⟩ := refu q (c := -6) (by decide)
    rw [e1, e2, b2s, b2s]
    exact ⟨_, _, _, _, _, rfl, rfl, q'⟩
  · rw [if_neg h1, if_neg (show ¬ (-4 : Int32) = 0 by decide), if_neg (show ¬ (-4 : Int32) = 0 by decide)]
    obtain ⟨rf', re', e1, e2, q'⟩ := refu q (c := -4) (by decide)
    rw [e1, e2, b2s, b2s]
    exact ⟨_, _, _, _, _, rfl, rfl, q'⟩
theorem eq_mendedThen {no : SV} {ss rf re : Nat → Int32} (h : ST no ss) (q : RF rf re) (mi : SV) (mm : Nat → Int32) (a : Int32) : ∃ r mi' rf' mm' re', M_X3_mendedThen no mi rf a = some (r, mi', rf') ∧ M_X4_mendedThen ss mm re a = some (r, mm', re') ∧ RF rf' re' := by
  obtain ⟨P, T, d, w, hd, hd2, hr⟩ := id h
  unfold M_X3_mendedThen M_X4_mendedThen M_X4_takes
  rw [outside_c, b1s, wrongBy_m, b1s]
  rcases lim_cases a 99 (by omega) with ⟨k, hk, rfl, h1, h2⟩ | ⟨h1, h2⟩ | h1
  · obtain ⟨w', hd'⟩ := itD_wf (P := P) (T := T) (x := 1) (by omega) (-9) k w hd (by omega)
    obtain ⟨r1, r', e⟩ := daysOn_m (P := P) (T := T) (N := k) (by omega) hr w hd (by omega)
    rw [if_pos h1, if_pos (show nI k ≤ 99 from h2), if_pos rfl, if_pos rfl, become_c, b1s, copies_m, b1s, show (1 : Int32) = nI 1 from rfl, pass_c (P := P) (T := T) (x := 1) (by omega) (-9) (N := k) (by omega) w hd (by omega), b1s, mendedAll_c w', b1s, mendedAll_c w, b1s, e, b1s, b1s, mendedAll_m r' w', b1s, mendedAll_m hr w, b1s]
    exact ⟨_, _, _, _, _, rfl, rfl, q⟩
  · rw [if_pos h1, if_neg (show ¬ a ≤ 99 from h2), if_neg (show ¬ (-6 : Int32) = 0 by decide), if_neg (show ¬ (-6 : Int32) = 0 by decide)]
    obtain ⟨rf', re', e1, e2, q'⟩ := refu q (c := -6) (by decide)
    rw [e1, e2, b2s, b2s]
    exact ⟨_, _, _, _, _, rfl, rfl, q'⟩
  · rw [if_neg h1, if_neg (show ¬ (-4 : Int32) = 0 by decide), if_neg (show ¬ (-4 : Int32) = 0 by decide)]
    obtain ⟨rf', re', e1, e2, q'⟩ := refu q (c := -4) (by decide)
    rw [e1, e2, b2s, b2s]
    exact ⟨_, _, _, _, _, rfl, rfl, q'⟩
theorem eq_brokenThen {no : SV} {ss rf re : Nat → Int32} (h : ST no ss) (q : RF rf re) (mi : SV) (mm : Nat → Int32) (b a : Int32) : ∃ r mi' rf' mm' re', M_X3_brokenThen no mi rf b a = some (r, mi', rf') ∧ M_X4_brokenThen ss mm re b a = some (r, mm', re') ∧ RF rf' re' := by
  obtain ⟨P, T, d, w, hd, hd2, hr⟩ := id h
  have hT := w.2.1
  unfold M_X3_brokenThen M_X4_brokenThen M_X4_takes
  rw [isT_c, chkc, isT_m hr w, chkc, outside_c, b1s, wrongBy_m, b1s]
  by_cases ht : 0 ≤ b ∧ b < sTh no
  · rw [if_pos ht, if_pos ht]
    rw [w.2.2.2.1] at ht
    obtain ⟨t, ht1, rfl⟩ := ix_of (by omega) ht
    rcases lim_cases a 99 (by omega) with ⟨k, hk, rfl, h1, h2⟩ | ⟨h1, h2⟩ | h1
    · obtain ⟨w', hd'⟩ := itD_wf (P := P) (T := T) (x := 1) (by omega) (-9) k w hd (by omega)
      obtain ⟨r1, r', e⟩ := daysOn_m (P := P) (T := T) (N := k) (by omega) hr w hd (by omega)
      rw [if_pos h1, if_pos (show nI k ≤ 99 from h2), if_pos rfl, if_pos rfl, become_c, b1s, copies_m, b1s, show (1 : Int32) = nI 1 from rfl, pass_c (P := P) (T := T) (x := 1) (by omega) (-9) (N := k) (by omega) w hd (by omega), b1s, chk_nI (by omega) (by omega), nI_clamp (by omega), e, b1s, b1s, ofT_nI, b1s, ad4, chk_nI (by omega) (by omega), nI_clamp (by omega), r'.br (by omega)]
      exact ⟨_, _, _, _, _, rfl, rfl, q⟩
    · rw [if_pos h1, if_neg (show ¬ a ≤ 99 from h2), if_neg (show ¬ (-6 : Int32) = 0 by decide), if_neg (show ¬ (-6 : Int32) = 0 by decide)]
      obtain ⟨rf', re', e1, e2, q'⟩ := refu q (c := -6) (by decide)
      rw [e1, e2, b2s, b2s]
      exact ⟨_, _, _, _, _, rfl, rfl, q'⟩
    · rw [if_neg h1, if_neg (show ¬ (-4 : Int32) = 0 by decide), if_neg (show ¬ (-4 : Int32) = 0 by decide)]
      obtain ⟨rf', re', e1, e2, q'⟩ := refu q (c := -4) (by decide)
      rw [e1, e2, b2s, b2s]
      exact ⟨_, _, _, _, _, rfl, rfl, q'⟩
  · rw [if_neg ht, if_neg ht]
    obtain ⟨rf', re', e1, e2, q'⟩ := refu q (c := -1) (by decide)
    rw [e1, e2, b2s, b2s]
    exact ⟨_, _, _, _, _, rfl, rfl, q'⟩
