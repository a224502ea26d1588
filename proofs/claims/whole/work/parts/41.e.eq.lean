/-! ### says, learns, missed -/
theorem wholeBehind_m {P T : Nat} {id : Int32} {N d : Nat} (hN : N ≤ 1000) {v : SV} {r : Nat → Int32} (h : RR v id r) (w : WF v P T) (hd : sDa v = nI d) (hd2 : d ≤ 10000) : ∃ r', M_X4_wholeBehind r (nI N) = some (nI (cN (itD P T 1 id N v) T), r') ∧ RR (itD P T 1 id N v) id r' := by
  obtain ⟨w', hd'⟩ := itD_wf (P := P) (T := T) (x := 1) (by omega) id N w hd (by omega)
  obtain ⟨r1, r', e⟩ := daysOn_m (P := P) (T := T) hN h w hd hd2
  refine ⟨r1, ?_, r'⟩
  unfold M_X4_wholeBehind
  rw [e, b1s, wholeSet_m r' w', b1s, bitsW_m w', b1s]
theorem pass_1 {P T : Nat} (idle : Int32) {N d : Nat} (hN : N ≤ 1000) {v : SV} (w : WF v P T) (hd : sDa v = nI d) (hd2 : d ≤ 10000) : M_X2_pass v (nI N) 1 idle = some (itD P T 1 idle N v) := pass_c (P := P) (T := T) (x := 1) (by omega) idle hN w hd hd2
theorem eq_learns {no : SV} {ss rf re : Nat → Int32} (h : ST no ss) (q : RF rf re) (mi : SV) (mm : Nat → Int32) (a : Int32) : ∃ r mi' rf' mm' re', M_X3_learns no mi rf a = some (r, mi', rf') ∧ M_X4_learns ss mm re a = some (r, mm', re') ∧ RF rf' re' := by
  obtain ⟨P, T, d, w, hd, hd2, hr⟩ := id h
  have hP := w.1
  have hT := w.2.1
  unfold M_X3_learns M_X4_learns M_X3_wholeBehind
  rw [outside_c, b1s, wrongBy_m, b1s]
  rcases lim_cases a 99 (by omega) with ⟨k, hk, rfl, h1, h2⟩ | ⟨h1, h2⟩ | h1
  · obtain ⟨w', hd'⟩ := itD_wf (P := P) (T := T) (x := 1) (by omega) (-9) k w hd (by omega)
    obtain ⟨r1, e, -⟩ := wholeBehind_m (P := P) (T := T) (N := k) (by omega) hr w hd (by omega)
    rw [if_pos h1, if_pos (show nI k ≤ 99 from h2), if_pos rfl, if_pos rfl, become_c, b1s, copies_m, b1s, pass_1 (-9) (by omega) w hd (by omega), b1s, wholeCount_c w', b1s, b2s, e, b2s]
    have key := fuelP2 (fun _ _ _ _ => none) (B_X3_learns_31 (nI k) no rf) (fun _ _ _ _ => none) (B_X4_learns_41 (nI k) ss re) (fun n f g => ∀ (i : Nat) (x y : Int32) (mi : SV) (mm : Nat → Int32), i ≤ P → P - i < n → ∃ o mi' mm', f x y (nI i) mi = some (o, mi', rf) ∧ g y x (nI i) mm = some (o, mm', re)) (fun i x y mi mm _ h => absurd h (Nat.not_lt_zero _)) (fun n f g hf i x y mi mm hi hn => by
      unfold B_X3_learns_31 B_X4_learns_41
      rw [hr.pe, w.2.2.1, if_le (by omega) (by omega), if_le (by omega) (by omega)]
      by_cases hh : P ≤ i
      · rw [if_pos hh, if_pos hh]; exact ⟨_, _, _, rfl, rfl⟩
      · have ww : WF (sUSk no (upd (sSk no) i 9)) P T := w
        have wd : sDa (sUSk no (upd (sSk no) i 9)) = nI d := hd
        obtain ⟨w2, hd2'⟩ := itD_wf (P := P) (T := T) (x := 1) (by omega) (-9) k ww wd (by omega)
        obtain ⟨r2, e2, -⟩ := wholeBehind_m (P := P) (T := T) (N := k) (by omega) (hr.uSk i (by omega) 9) ww wd (by omega)
        rw [if_neg hh, if_neg hh, become_c, b1s, chk_nI (by omega) (by omega), nI_clamp (by omega), pass_1 (-9) (by omega) ww wd (by omega), b1s, wholeCount_c w2, b1s, b1s, copies_m, b1s, ofP_nI, b1s, ad0, chk_nI (by omega) (by omega), nI_clamp (by omega), e2, b2s, ad1]
        by_cases hv : nI (cN (itD P T 1 (-9) k (sUSk no (upd (sSk no) i 9))) T) ≤ y
        · rw [if_pos hv, if_neg (Int32.not_lt.mpr hv)]; exact hf (i + 1) _ _ _ _ (by omega) (by omega)
        · rw [if_neg hv, if_pos (Int32.not_le.mp hv)]; exact hf (i + 1) _ _ _ _ (by omega) (by omega)) FU
    obtain ⟨o, m1, m2, e1, e2⟩ := key 0 (-9) (nI (cN (itD P T 1 (-9) k no) T)) (itD P T 1 (-9) k no) r1 (Nat.zero_le _) (by rw [FU_eq]; omega)
    exact ⟨_, _, _, _, _, e1, e2, q⟩
  · rw [if_pos h1, if_neg (show ¬ a ≤ 99 from h2), if_neg (show ¬ (-6 : Int32) = 0 by decide), if_neg (show ¬ (-6 : Int32) = 0 by decide)]
    obtain ⟨rf', re', e1, e2, q'⟩ := refu q (c := -6) (by decide)
    rw [e1, e2, b2s, b2s]
    exact ⟨_, _, _, _, _, rfl, rfl, q'⟩
  · rw [if_neg h1, if_neg (show ¬ (-4 : Int32) = 0 by decide), if_neg (show ¬ (-4 : Int32) = 0 by decide)]
    obtain ⟨rf', re', e1, e2, q'⟩ := refu q (c := -4) (by decide)
    rw [e1, e2, b2s, b2s]
    exact ⟨_, _, _, _, _, rfl, rfl, q'⟩
theorem eq_missed {no : SV} {ss rf re : Nat → Int32} (h : ST no ss) (q : RF rf re) (mi : SV) (mm : Nat → Int32) (a : Int32) : ∃ r mi' rf' mm' re', M_X3_missed no mi rf a = some (r, mi', rf') ∧ M_X4_missed ss mm re a = some (r, mm', re') ∧ RF rf' re' := by
  obtain ⟨P, T, d, w, hd, hd2, hr⟩ := id h
  have hP := w.1
  have hT := w.2.1
  unfold M_X3_missed M_X4_missed
  rw [outside_c, b1s, wrongBy_m, b1s]
  rcases lim_cases a 99 (by omega) with ⟨k, hk, rfl, h1, h2⟩ | ⟨h1, h2⟩ | h1
  · rw [if_pos h1, if_pos (show nI k ≤ 99 from h2), if_pos rfl, if_pos rfl]
    have key := fuelP2 (fun _ _ _ _ => none) (B_X3_missed_28 (nI k) no rf) (fun _ _ _ _ => none) (B_X4_missed_27 (nI k) ss re) (fun n f g => ∀ (i : Nat) (x y z : Int32) (mi : SV) (mm : Nat → Int32), i ≤ P → P - i < n → ((y = 10 ∧ z = 1000000000) ∨ ∃ c : Nat, c < 10 ∧ y = nI c ∧ z = nI c) → ∃ o mi' mm', f x y (nI i) mi = some (o, mi', rf) ∧ g x z (nI i) mm = some (o, mm', re)) (fun i x y z mi mm _ h => absurd h (Nat.not_lt_zero _)) (fun n f g hf i x y z mi mm hi hn hyz => by
      unfold B_X3_missed_28 B_X4_missed_27
      rw [hr.pe, w.2.2.1, if_le (by omega) (by omega), if_le (by omega) (by omega)]
      by_cases hh : P ≤ i
      · rw [if_pos hh, if_pos hh]; exact ⟨_, _, _, rfl, rfl⟩
      · obtain ⟨w2, hd2'⟩ := itD_wf (P := P) (T := T) (x := 1) (by omega) (nI i) k w hd (by omega)
        obtain ⟨r2, e2, -⟩ := wholeBehind_m (P := P) (T := T) (N := k) (by omega) (hr.uId (nI i)) w hd (by omega)
        have hc : cN (itD P T 1 (nI i) k no) T ≤ 9 := pcN_le _
        rw [if_neg hh, if_neg hh, become_c, b1s, pass_1 (nI i) (by omega) w hd (by omega), b1s, wholeCount_c w2, b1s, b1s, copies_m, b1s, e2, b2s, ad1]
        rcases hyz with ⟨rfl, rfl⟩ | ⟨c2, hc2, rfl, rfl⟩
        · rw [show (10 : Int32) = nI 10 from rfl, show (1000000000 : Int32) = nI 1000000000 from rfl, if_le (by omega) (by omega), if_lt (by omega) (by omega), if_neg (show ¬ 10 ≤ cN (itD P T 1 (nI i) k no) T by omega), if_pos (show cN (itD P T 1 (nI i) k no) T < 1000000000 by omega)]
          exact hf (i + 1) _ _ _ _ _ (by omega) (by omega) (Or.inr ⟨_, (by omega), rfl, rfl⟩)
        · rw [if_le (by omega) (by omega), if_lt (by omega) (by omega)]
          by_cases hcc : c2 ≤ cN (itD P T 1 (nI i) k no) T
          · rw [if_pos hcc, if_neg (show ¬ cN (itD P T 1 (nI i) k no) T < c2 by omega)]
            exact hf (i + 1) _ _ _ _ _ (by omega) (by omega) (Or.inr ⟨c2, hc2, rfl, rfl⟩)
          · rw [if_neg hcc, if_pos (show cN (itD P T 1 (nI i) k no) T < c2 by omega)]
            exact hf (i + 1) _ _ _ _ _ (by omega) (by omega) (Or.inr ⟨_, (by omega), rfl, rfl⟩)) FU
    obtain ⟨o, m1, m2, e1, e2⟩ := key 0 (-9) 10 1000000000 mi mm (Nat.zero_le _) (by rw [FU_eq]; omega) (Or.inl ⟨rfl, rfl⟩)
    exact ⟨_, _, _, _, _, e1, e2, q⟩
  · rw [if_pos h1, if_neg (show ¬ a ≤ 99 from h2), if_neg (show ¬ (-6 : Int32) = 0 by decide), if_neg (show ¬ (-6 : Int32) = 0 by decide)]
    obtain ⟨rf', re', e1, e2, q'⟩ := refu q (c := -6) (by decide)
    rw [e1, e2, b2s, b2s]
    exact ⟨_, _, _, _, _, rfl, rfl, q'⟩
  · rw [if_neg h1, if_neg (show ¬ (-4 : Int32) = 0 by decide), if_neg (show ¬ (-4 : Int32) = 0 by decide)]
    obtain ⟨rf', re', e1, e2, q'⟩ := refu q (c := -4) (by decide)
    rw [e1, e2, b2s, b2s]
    exact ⟨_, _, _, _, _, rfl, rfl, q'⟩
theorem eq_bestSays {no : SV} {ss rf re : Nat → Int32} (h : ST no ss) (q : RF rf re) (mi : SV) (mm : Nat → Int32) (a : Int32) : ∃ r mi' rf' mm' re', M_X3_bestSays no mi rf a = some (r, mi', rf') ∧ M_X4_bestSays ss mm re a = some (r, mm', re') ∧ RF rf' re' := by
  obtain ⟨P, T, d, w, hd, hd2, hr⟩ := id h
  have hP := w.1
  have hT := w.2.1
  unfold M_X3_bestSays M_X4_bestSays M_X3_wholeBehind
  rw [outside_c, b1s, wrongBy_m, b1s]
  rcases lim_cases a 99 (by omega) with ⟨k, hk, rfl, h1, h2⟩ | ⟨h1, h2⟩ | h1
  · obtain ⟨w', hd'⟩ := itD_wf (P := P) (T := T) (x := 1) (by omega) (-9) k w hd (by omega)
    obtain ⟨r1, e, -⟩ := wholeBehind_m (P := P) (T := T) (N := k) (by omega) hr w hd (by omega)
    rw [if_pos h1, if_pos (show nI k ≤ 99 from h2), if_pos rfl, if_pos rfl, become_c, b1s, copies_m, b1s, pass_1 (-9) (by omega) w hd (by omega), b1s, wholeCount_c w', b1s, b2s, e, b2s]
    have inner : ∀ (t : Nat), t < T → ∀ (K : Int32 → Int32 → SV → Option (Int32 × SV × (Nat → Int32))) (L : Int32 → Int32 → (Nat → Int32) → Option (Int32 × (Nat → Int32) × (Nat → Int32))), (∀ x y mi mm, ∃ o mi' mm', K x y mi = some (o, mi', rf) ∧ L y x mm = some (o, mm', re)) → ∀ n, ∀ (i : Nat) (x y : Int32) (mi : SV) (mm : Nat → Int32), i ≤ P → P - i < n → ∃ o mi' mm', fuel (fun _ _ _ _ => none) (B_X3_bestSays_46 (nI k) (nI t) no rf K) n x y (nI i) mi = some (o, mi', rf) ∧ fuel (fun _ _ _ _ => none) (B_X4_bestSays_55 (nI k) (nI t) ss re L) n y x (nI i) mm = some (o, mm', re) := by
      intro t ht K L hKL n
      refine fuelP2 (fun _ _ _ _ => none) (B_X3_bestSays_46 (nI k) (nI t) no rf K) (fun _ _ _ _ => none) (B_X4_bestSays_55 (nI k) (nI t) ss re L) (fun n f g => ∀ (i : Nat) (x y : Int32) (mi : SV) (mm : Nat → Int32), i ≤ P → P - i < n → ∃ o mi' mm', f x y (nI i) mi = some (o, mi', rf) ∧ g y x (nI i) mm = some (o, mm', re)) (fun i x y mi mm _ h => absurd h (Nat.not_lt_zero _)) (fun n f g hf i x y mi mm hi hn => ?_) n
      unfold B_X3_bestSays_46 B_X4_bestSays_55
      simp only [ofT_nI, b1s, ad4]
      rw [hr.pe, w.2.2.1, if_le (by omega) (by omega), if_le (by omega) (by omega)]
      by_cases hh : P ≤ i
      · rw [if_pos hh, if_pos hh]; exact hKL _ _ _ _
      · rw [if_neg hh, if_neg hh, isMourned_c no (by omega), b1s, chk_nI (show 16 + 5 * t + 4 < 61 by omega) (by omega), nI_clamp (show 16 + 5 * t + 4 < 2 ^ 31 by omega), hr.br (by omega)]
        by_cases hm : sBr no t = -8
        · have ww : WF (sUBr no (upd (sBr no) t (nI i))) P T := w.uBr t (Or.inr (Or.inr ⟨i, by omega, rfl⟩))
          have wd : sDa (sUBr no (upd (sBr no) t (nI i))) = nI d := hd
          obtain ⟨w2, hd2'⟩ := itD_wf (P := P) (T := T) (x := 1) (by omega) (-9) k ww wd (by omega)
          obtain ⟨r2, e2, -⟩ := wholeBehind_m (P := P) (T := T) (N := k) (by omega) (hr.uBr t (by omega) (nI i)) ww wd (by omega)
          rw [if_pos hm, if_neg (show ¬ (1 : Int32) = 0 by decide), if_pos hm, become_c, b1s, chk_nI (by omega) (by omega), nI_clamp (by omega), pass_1 (-9) (by omega) ww wd (by omega), b1s, wholeCount_c w2, b1s, b1s, copies_m, b1s, chk_nI (by omega) (by omega), e2, b2s, ad1]
          by_cases hv : nI (cN (itD P T 1 (-9) k (sUBr no (upd (sBr no) t (nI i)))) T) ≤ y
          · rw [if_pos hv, if_neg (Int32.not_lt.mpr hv)]; exact hf (i + 1) _ _ _ _ (by omega) (by omega)
          · rw [if_neg hv, if_pos (Int32.not_le.mp hv)]; exact hf (i + 1) _ _ _ _ (by omega) (by omega)
        · rw [if_neg hm, if_pos rfl, if_neg hm]; exact hKL _ _ _ _
    have key := fuelP2 (fun _ _ _ _ => none) (B_X3_bestSays_31 (nI k) no rf) (fun _ _ _ _ => none) (B_X4_bestSays_41 (nI k) ss re) (fun n f g => ∀ (i : Nat) (x y : Int32) (mi : SV) (mm : Nat → Int32), i ≤ T → T - i < n → ∃ o mi' mm', f x y (nI i) mi = some (o, mi', rf) ∧ g y x (nI i) mm = some (o, mm', re)) (fun i x y mi mm _ h => absurd h (Nat.not_lt_zero _)) (fun n f g hf i x y mi mm hi hn => by
      unfold B_X3_bestSays_31 B_X4_bestSays_41
      rw [hr.th, w.2.2.2.1, if_le (by omega) (by omega), if_le (by omega) (by omega)]
      by_cases hh : T ≤ i
      · rw [if_pos hh, if_pos hh]; exact ⟨_, _, _, rfl, rfl⟩
      · rw [if_neg hh, if_neg hh, ad1]
        exact inner i (by omega) _ _ (fun x y mi mm => hf (i + 1) x y mi mm (by omega) (by omega)) FU 0 x y mi mm (Nat.zero_le _) (by rw [FU_eq]; omega)) FU
    obtain ⟨o, m1, m2, e1, e2⟩ := key 0 (-9) (nI (cN (itD P T 1 (-9) k no) T)) (itD P T 1 (-9) k no) r1 (Nat.zero_le _) (by rw [FU_eq]; omega)
    exact ⟨_, _, _, _, _, e1, e2, q⟩
  · rw [if_pos h1, if_neg (show ¬ a ≤ 99 from h2), if_neg (show ¬ (-6 : Int32) = 0 by decide), if_neg (show ¬ (-6 : Int32) = 0 by decide)]
    obtain ⟨rf', re', e1, e2, q'⟩ := refu q (c := -6) (by decide)
    rw [e1, e2, b2s, b2s]
    exact ⟨_, _, _, _, _, rfl, rfl, q'⟩
  · rw [if_neg h1, if_neg (show ¬ (-4 : Int32) = 0 by decide), if_neg (show ¬ (-4 : Int32) = 0 by decide)]
    obtain ⟨rf', re', e1, e2, q'⟩ := refu q (c := -4) (by decide)
    rw [e1, e2, b2s, b2s]
    exact ⟨_, _, _, _, _, rfl, rfl, q'⟩
/-! ### first -/
def ffT (P T : Nat) (no : SV) : Nat → Nat → SV → Option (Nat × Nat)
  | 0, _, _ => none
  | n + 1, i, u => match fnd (fun t => isW no t ∧ ¬ isW (dyS P T 1 (-9) u) t) T 0 with
    | some t => some (t, i)
    | none => ffT P T no n (i + 1) (dyS P T 1 (-9) u)
theorem firstLost_c {no mi : SV} {P T : Nat} (w : WF no P T) : M_X3_firstLost no mi = some (oI (fnd (fun t => isW no t ∧ ¬ isW mi t) T 0)) := by
  have hT := w.2.1
  have e : M_X3_firstLost no mi = (match fnd (fun t => isW no t ∧ ¬ isW mi t) T 0 with | none => some (-9) | some t => some (nI t)) := by
    unfold M_X3_firstLost
    refine findL (fun _ => none) (B_X3_firstLost_2 no mi) _ T (some (-9)) (fun t => some (nI t)) (by omega) (fun f => ?_) (fun f i hi => ?_)
    · unfold B_X3_firstLost_2
      rw [w.2.2.2.1, if_pos (Int32.le_refl _)]
    · unfold B_X3_firstLost_2
      rw [w.2.2.2.1, if_le (by omega) (by omega), if_neg (show ¬ T ≤ i by omega), isWhole_c no (by omega), b1s, isWhole_c mi (by omega), b1s, ad1]
      by_cases h1 : isW no i
      · rw [if_pos h1, if_neg (show ¬ (1 : Int32) = 0 by decide)]
        by_cases h2 : isW mi i
        · rw [if_pos h2, if_neg (show ¬ (1 : Int32) = 0 by decide), if_neg (fun x => x.2 h2)]
        · rw [if_neg h2, if_pos rfl, if_pos ⟨h1, h2⟩]
      · rw [if_neg h1, if_pos rfl, if_neg (fun x => h1 x.1)]
  rw [e]
  cases fnd (fun t => isW no t ∧ ¬ isW mi t) T 0 <;> rfl
/-- the days of a lane in mind -/
theorem itD_s (P T x : Nat) (idle : Int32) : ∀ (n : Nat) (v : SV), itD P T x idle (n + 1) v = dyS P T x idle (itD P T x idle n v)
  | 0, _ => rfl
  | n + 1, v => itD_s P T x idle n (dyS P T x idle v)
theorem ffT_some {P T : Nat} {no : SV} : ∀ {n i : Nat} {u : SV} {t k : Nat}, u = itD P T 1 (-9) (i - 1) no → 1 ≤ i → ffT P T no n i u = some (t, k) → i ≤ k ∧ k < i + n ∧ fnd (fun t => isW no t ∧ ¬ isW (itD P T 1 (-9) k no) t) T 0 = some t ∧ ∀ j, i ≤ j → j < k → fnd (fun t => isW no t ∧ ¬ isW (itD P T 1 (-9) j no) t) T 0 = none
  | 0, _, _, _, _, _, _, h => by cases h
  | n + 1, i, u, t, k, hu, hi, h => by
    have e : dyS P T 1 (-9) u = itD P T 1 (-9) i no := by
      rw [hu, ← itD_s, show i - 1 + 1 = i by omega]
    unfold ffT at h
    rw [e] at h
    cases hf : fnd (fun t => isW no t ∧ ¬ isW (itD P T 1 (-9) i no) t) T 0 with
    | some t' =>
      rw [hf] at h
      cases h
      exact ⟨Nat.le_refl _, by omega, hf, fun j h1 h2 => absurd h2 (by omega)⟩
    | none =>
      rw [hf] at h
      obtain ⟨a, b, c, g⟩ := ffT_some (n := n) (i := i + 1) (show itD P T 1 (-9) i no = itD P T 1 (-9) (i + 1 - 1) no by rw [show i + 1 - 1 = i by omega]) (by omega) h
      refine ⟨by omega, by omega, c, fun j h1 h2 => ?_⟩
      by_cases ej : j = i
      · subst ej; exact hf
      · exact g j (by omega) h2
theorem ffT_none {P T : Nat} {no : SV} : ∀ {n i : Nat} {u : SV}, u = itD P T 1 (-9) (i - 1) no → 1 ≤ i → ffT P T no n i u = none → ∀ j, i ≤ j → j < i + n → fnd (fun t => isW no t ∧ ¬ isW (itD P T 1 (-9) j no) t) T 0 = none
  | 0, _, _, _, _, _, j, h1, h2 => absurd h2 (by omega)
  | n + 1, i, u, hu, hi, h, j, h1, h2 => by
    have e : dyS P T 1 (-9) u = itD P T 1 (-9) i no := by
      rw [hu, ← itD_s, show i - 1 + 1 = i by omega]
    unfold ffT at h
    rw [e] at h
    cases hf : fnd (fun t => isW no t ∧ ¬ isW (itD P T 1 (-9) i no) t) T 0 with
    | some t' => rw [hf] at h; cases h
    | none =>
      rw [hf] at h
      by_cases ej : j = i
      · subst ej; exact hf
      · exact ffT_none (n := n) (i := i + 1) (show itD P T 1 (-9) i no = itD P T 1 (-9) (i + 1 - 1) no by rw [show i + 1 - 1 = i by omega]) (by omega) h j (by omega) (by omega)
/-- when a thing is first not whole -/
def nwT (P T : Nat) (no : SV) (t : Nat) : Option Nat := fnd (fun k => ¬ isW (itD P T 1 (-9) k no) t) 100 0
def fiI (P T : Nat) (no : SV) (i : Nat) (x y : Int32) : Prop :=
  (x = -9 ∧ y = 1000000000 ∧ ∀ t, t < i → isW no t → nwT P T no t = none) ∨
  ∃ t k : Nat, t < i ∧ k < 100 ∧ x = nI t ∧ y = nI k ∧ isW no t ∧ nwT P T no t = some k ∧ ∀ t' k', t' < i → isW no t' → nwT P T no t' = some k' → k ≤ k' ∧ (k' = k → t ≤ t')
theorem first_m {no : SV} {ss re : Nat → Int32} {P T d : Nat} (w : WF no P T) (hd : sDa no = nI d) (hd2 : d ≤ 999) (hr : RR no (-9) ss) (b : Int32) (mm : Nat → Int32) : ∃ x y mm', fiI P T no T x y ∧ fuel (fun _ _ _ _ => none) (B_X4_first_25 b ss re) FU (-9) 1000000000 0 mm = (if x < 0 then some (x, mm', re) else if b = 0 then some (x, mm', re) else some (y, mm', re)) := by
  have hT := w.2.1
  refine fuelP (fun _ _ _ _ => none) (B_X4_first_25 b ss re) (fun n f => ∀ (i : Nat) (x y : Int32) (mm : Nat → Int32), i ≤ T → T - i < n → fiI P T no i x y → ∃ x' y' mm', fiI P T no T x' y' ∧ f x y (nI i) mm = (if x' < 0 then some (x', mm', re) else if b = 0 then some (x', mm', re) else some (y', mm', re))) (fun i x y mm _ h => absurd h (Nat.not_lt_zero _)) (fun n f hf i x y mm hi hn hI => ?_) FU 0 (-9) 1000000000 mm (Nat.zero_le _) (by rw [FU_eq]; omega) (Or.inl ⟨rfl, rfl, fun t h => absurd h (Nat.not_lt_zero _)⟩)
  unfold B_X4_first_25
  rw [hr.th, w.2.2.2.1, if_le (by omega) (by omega)]
  by_cases hh : T ≤ i
  · have : i = T := by omega
    subst this
    rw [if_pos hh]
    exact ⟨x, y, mm, hI, rfl⟩
  · rw [if_neg hh, isWhole_m ss (by omega), hr.br (by omega), b1s, ad1]
    have ht : i < T := by omega
    by_cases hw : sBr no i = -9
    · rw [if_pos hw, if_neg (show ¬ (1 : Int32) = 0 by decide)]
      obtain ⟨n1, f1⟩ := whenIn_m (P := P) (T := T) ((1 : Int32) <<< (nI i &&& 31)) 0 (fun u => isW u i) (fun u wu => one_set ht u wu) (Or.inl rfl) (F := 0) (by omega) hr w hd (by omega)
      rw [if_neg (show ¬ 0 < 0 by omega), whT_cong (qr := fun u => ¬ isW u i) (fun u => by
        by_cases x : isW u i
        · rw [if_pos x]; exact ⟨fun e => absurd e (by decide), fun e => absurd x e⟩
        · rw [if_neg x]; exact ⟨fun _ => x, fun _ => rfl⟩), whT_fnd] at f1
      have f1' : M_X4_whenIn ss ((1 : Int32) <<< (nI i &&& 31)) 0 0 = some (oI (nwT P T no i), n1) := f1
      unfold M_X4_whenOf
      rw [copies_m, b1s, f1', b2s, b2s]
      rcases oI_cases (nwT P T no i) (n := 100) (fun k hk => by have := (fnd_some hk).2.1; omega) with ⟨eo, en⟩ | ⟨c, hc, eo, en⟩
      · rw [eo, if_pos (show (-9 : Int32) < 0 by decide)]
        refine hf (i + 1) x y _ (by omega) (by omega) ?_
        rcases hI with ⟨a1, a2, a3⟩ | ⟨t, k, a1, a2, a3, a4, a5, a6, a7⟩
        · refine Or.inl ⟨a1, a2, fun t ht' hwt => ?_⟩
          by_cases e : t = i
          · subst e; exact en
          · exact a3 t (by omega) hwt
        · refine Or.inr ⟨t, k, by omega, a2, a3, a4, a5, a6, fun t' k' h1 h2 h3 => ?_⟩
          by_cases e : t' = i
          · subst e; rw [en] at h3; cases h3
          · exact a7 t' k' (by omega) h2 h3
      · rw [eo, if_neg (nI_pos (show c < 2 ^ 31 by omega))]
        rcases hI with ⟨a1, a2, a3⟩ | ⟨t, k, a1, a2, a3, a4, a5, a6, a7⟩
        · rw [a2, show (1000000000 : Int32) = nI 1000000000 from rfl, if_lt (by omega) (by omega), if_pos (show c < 1000000000 by omega)]
          refine hf (i + 1) _ _ _ (by omega) (by omega) (Or.inr ⟨i, c, by omega, hc, rfl, rfl, hw, en, fun t' k' h1 h2 h3 => ?_⟩)
          by_cases e : t' = i
          · subst e; rw [en] at h3; cases h3; exact ⟨Nat.le_refl _, fun _ => Nat.le_refl _⟩
          · rw [a3 t' (by omega) h2] at h3; cases h3
        · rw [a4, if_lt (by omega) (by omega)]
          by_cases hcc : c < k
          · rw [if_pos hcc]
            refine hf (i + 1) _ _ _ (by omega) (by omega) (Or.inr ⟨i, c, by omega, hc, rfl, rfl, hw, en, fun t' k' h1 h2 h3 => ?_⟩)
            by_cases e : t' = i
            · subst e; rw [en] at h3; cases h3; exact ⟨Nat.le_refl _, fun _ => Nat.le_refl _⟩
            · have := (a7 t' k' (by omega) h2 h3).1
              exact ⟨by omega, fun e => absurd e (by omega)⟩
          · rw [if_neg hcc]
            refine hf (i + 1) _ _ _ (by omega) (by omega) (Or.inr ⟨t, k, by omega, a2, a3, rfl, a5, a6, fun t' k' h1 h2 h3 => ?_⟩)
            by_cases e : t' = i
            · subst e; rw [en] at h3; cases h3; exact ⟨by omega, fun _ => by omega⟩
            · exact a7 t' k' (by omega) h2 h3
    · rw [if_neg hw, if_pos rfl]
      refine hf (i + 1) x y _ (by omega) (by omega) ?_
      rcases hI with ⟨a1, a2, a3⟩ | ⟨t, k, a1, a2, a3, a4, a5, a6, a7⟩
      · refine Or.inl ⟨a1, a2, fun t ht' hwt => ?_⟩
        by_cases e : t = i
        · subst e; exact absurd hwt hw
        · exact a3 t (by omega) hwt
      · refine Or.inr ⟨t, k, by omega, a2, a3, a4, a5, a6, fun t' k' h1 h2 h3 => ?_⟩
        by_cases e : t' = i
        · subst e; exact absurd h2 hw
        · exact a7 t' k' (by omega) h2 h3
theorem first_c {no : SV} {rf : Nat → Int32} {P T d : Nat} (w : WF no P T) (hd : sDa no = nI d) (hd2 : d ≤ 999) (b : Int32) : ∃ mi', fuel (fun _ _ => none) (B_X3_first_29 b no rf) FU 1 no = some (match ffT P T no 99 1 no with | none => -9 | some q => if b = 0 then nI q.1 else nI q.2, mi', rf) := by
  have hT := w.2.1
  refine fuelP (fun _ _ => none) (B_X3_first_29 b no rf) (fun n f => ∀ (i : Nat) (u : SV) (d : Nat), WF u P T → sDa u = nI d → d ≤ 999 + i → 1 ≤ i → i ≤ 100 → 100 - i < n → ∃ mi', f (nI i) u = some (match ffT P T no (100 - i) i u with | none => -9 | some q => if b = 0 then nI q.1 else nI q.2, mi', rf)) (fun i _ _ _ _ _ _ _ h => absurd h (Nat.not_lt_zero _)) (fun n f hf i u d wu hd hd2 hi1 hi hn => ?_) FU 1 no d w hd (by omega) (by omega) (by omega) (by rw [FU_eq]; omega)
  unfold B_X3_first_29
  rw [show (99 : Int32) = nI 99 from rfl, if_lt (by omega) (by omega)]
  by_cases h : 99 < i
  · rw [if_pos h, show 100 - i = 0 by omega]; exact ⟨_, rfl⟩
  · obtain ⟨w', hd'⟩ := dyS_wf (P := P) (T := T) (x := 1) (by omega) (-9) wu hd (by omega)
    rw [if_neg h, pass1 wu hd (by omega), b1s, firstLost_c w, b1s, ad1, show 100 - i = (100 - (i + 1)) + 1 by omega]
    unfold ffT
    cases hf2 : fnd (fun t => isW no t ∧ ¬ isW (dyS P T 1 (-9) u) t) T 0 with
    | none =>
      rw [show oI none = -9 from rfl, if_pos rfl]
      exact hf (i + 1) _ (d + 1) w' hd' (by omega) (by omega) (by omega) (by omega)
    | some t =>
      obtain ⟨-, ht, -⟩ := fnd_some hf2
      have ht9 : ¬ nI t = -9 := fun e => absurd (show (-9 : Int32) < 0 by decide) (by rw [← e]; exact nI_pos (by omega))
      rw [show oI (some t) = nI t from rfl, if_neg ht9]
      by_cases hb : b = 0
      · rw [if_pos hb]
        refine ⟨dyS P T 1 (-9) u, ?_⟩
        dsimp only
        rw [if_pos hb]
      · rw [if_neg hb]
        refine ⟨dyS P T 1 (-9) u, ?_⟩
        dsimp only
        rw [if_neg hb]
theorem eq_first {no : SV} {ss rf re : Nat → Int32} (h : ST no ss) (q : RF rf re) (mi : SV) (mm : Nat → Int32) (b : Int32) : ∃ r mi' rf' mm' re', M_X3_first no mi rf b = some (r, mi', rf') ∧ M_X4_first ss mm re b = some (r, mm', re') ∧ RF rf' re' := by
  obtain ⟨P, T, d, w, hd, hd2, hr⟩ := id h
  have hT := w.2.1
  unfold M_X3_first M_X4_first
  rw [isIn_m]
  by_cases hb : b < 0
  · rw [if_pos hb, if_pos hb, b1s, if_pos rfl]
    obtain ⟨rf', re', e1, e2, q'⟩ := refu q (c := -2) (by decide)
    rw [e1, e2, b2s, b2s]
    exact ⟨_, _, _, _, _, rfl, rfl, q'⟩
  rw [if_neg hb, if_neg hb]
  by_cases hb1 : b ≤ 1
  · obtain ⟨mi', e1⟩ := first_c (rf := rf) w hd hd2 b
    obtain ⟨x, y, mm', hI, e2⟩ := first_m (re := re) w hd hd2 hr b mm
    rw [if_pos hb1, if_neg (Int32.not_lt.mpr hb1), b1s, if_neg (show ¬ (1 : Int32) = 0 by decide), become_c, b1s, e1, e2]
    have hz : ∀ t, isW no t → nwT P T no t ≠ some 0 := fun t ht e => (fnd_some e).2.2.1 ht
    cases hff : ffT P T no 99 1 no with
    | none =>
      have hn := ffT_none (n := 99) (i := 1) (show no = itD P T 1 (-9) (1 - 1) no from rfl) (Nat.le_refl _) hff
      rcases hI with ⟨a1, a2, a3⟩ | ⟨t, k, a1, a2, a3, a4, a5, a6, a7⟩
      · rw [a1, if_pos (show (-9 : Int32) < 0 by decide)]
        exact ⟨_, _, _, _, _, rfl, rfl, q⟩
      · exfalso
        obtain ⟨-, hk, hk2, -⟩ := fnd_some a6
        have hk0 : k ≠ 0 := fun e => hz t a5 (by rw [a6, e])
        exact fnd_none (hn k (by omega) (by omega)) t (Nat.zero_le _) (by omega) ⟨a5, hk2⟩
    | some pr =>
      obtain ⟨t0, k0⟩ := pr
      obtain ⟨b1, b2, b3, b4⟩ := ffT_some (n := 99) (i := 1) (show no = itD P T 1 (-9) (1 - 1) no from rfl) (Nat.le_refl _) hff
      obtain ⟨-, ht0, ⟨hw0, hn0⟩, hmin⟩ := fnd_some b3
      -- the thing found in the class' way is not whole first at k0
      have hnw : nwT P T no t0 = some k0 := by
        cases hx : nwT P T no t0 with
        | none => exact absurd hn0 (fnd_none hx k0 (Nat.zero_le _) (by omega))
        | some k' =>
          obtain ⟨-, c1, c2, c3⟩ := fnd_some hx
          have hk0 : k' ≠ 0 := fun e => hz t0 hw0 (by rw [hx, e])
          have : k' = k0 := by
            rcases Nat.lt_trichotomy k' k0 with l | l | l
            · exact absurd ⟨hw0, c2⟩ (fnd_none (b4 k' (by omega) l) t0 (Nat.zero_le _) (by omega))
            · exact l
            · exact absurd hn0 (c3 k0 (Nat.zero_le _) l)
          rw [this]
      rcases hI with ⟨a1, a2, a3⟩ | ⟨t, k, a1, a2, a3, a4, a5, a6, a7⟩
      · rw [a3 t0 (by omega) hw0] at hnw; cases hnw
      · obtain ⟨l1, l2⟩ := a7 t0 k0 (by omega) hw0 hnw
        obtain ⟨-, c1, c2, c3⟩ := fnd_some a6
        have hk0 : k ≠ 0 := fun e => hz t a5 (by rw [a6, e])
        have ek : k = k0 := by
          rcases Nat.lt_or_ge k k0 with l | l
          · exact absurd ⟨a5, c2⟩ (fnd_none (b4 k (by omega) l) t (Nat.zero_le _) (by omega))
          · omega
        subst ek
        have et : t = t0 := by
          have h1 := l2 rfl
          rcases Nat.lt_or_ge t t0 with l | l
          · exact absurd ⟨a5, c2⟩ (hmin t (Nat.zero_le _) l)
          · omega
        subst et
        rw [a3, a4, if_neg (nI_pos (show t < 2 ^ 31 by omega))]
        by_cases h0 : b = 0
        · rw [if_pos h0]
          refine ⟨nI t, mi', rf, mm', re, ?_, rfl, q⟩
          dsimp only
          rw [if_pos h0]
        · rw [if_neg h0]
          refine ⟨nI k, mi', rf, mm', re, ?_, rfl, q⟩
          dsimp only
          rw [if_neg h0]
  · rw [if_neg hb1, if_pos (Int32.not_le.mp hb1), b1s, if_pos rfl]
    obtain ⟨rf', re', e1, e2, q'⟩ := refu q (c := -2) (by decide)
    rw [e1, e2, b2s, b2s]
    exact ⟨_, _, _, _, _, rfl, rfl, q'⟩
