/-! ### what is when -/
def oI (o : Option Nat) : Int32 := match o with
  | none => -9
  | some k => nI k
def whT (P T : Nat) (pr : SV → Prop) [DecidablePred pr] : Nat → Nat → SV → Option Nat
  | 0, _, _ => none
  | n + 1, i, v => if pr v then some i else whT P T pr n (i + 1) (dyS P T 1 (-9) v)
theorem whT_s (P T : Nat) (pr : SV → Prop) [DecidablePred pr] (n i : Nat) (v : SV) : whT P T pr (n + 1) i v = if pr v then some i else whT P T pr n (i + 1) (dyS P T 1 (-9) v) := rfl
theorem pass1 {P T d : Nat} {v : SV} (w : WF v P T) (hd : sDa v = nI d) (hd2 : d ≤ 10000) : M_X2_pass v 1 1 (-9) = some (dyS P T 1 (-9) v) := pass_c (P := P) (T := T) (x := 1) (by omega) (-9) (N := 1) (by omega) w hd hd2
theorem whT_lt {P T : Nat} {pr : SV → Prop} [DecidablePred pr] : ∀ {n i : Nat} {v : SV} {k : Nat}, whT P T pr n i v = some k → i ≤ k ∧ k < i + n
  | 0, _, _, _, h => by cases h
  | n + 1, i, v, k, h => by
    unfold whT at h
    by_cases hp : pr v
    · rw [if_pos hp] at h; cases h; omega
    · rw [if_neg hp] at h
      have := whT_lt h
      omega
theorem whT_cong {P T : Nat} {pr qr : SV → Prop} [DecidablePred pr] [DecidablePred qr] (h : ∀ v, pr v ↔ qr v) : ∀ (n i : Nat) (v : SV), whT P T pr n i v = whT P T qr n i v
  | 0, _, _ => rfl
  | n + 1, i, v => by
    unfold whT
    by_cases hp : pr v
    · rw [if_pos hp, if_pos ((h v).mp hp)]
    · rw [if_neg hp, if_neg (fun x => hp ((h v).mpr x))]
      exact whT_cong h n (i + 1) _
theorem whT_fnd {P T : Nat} {pr : SV → Prop} [DecidablePred pr] : ∀ (n i : Nat) (v : SV), whT P T pr n i v = fnd (fun k => pr (itD P T 1 (-9) (k - i) v)) n i
  | 0, _, _ => rfl
  | n + 1, i, v => by
    unfold whT fnd
    rw [Nat.sub_self]
    show (if pr v then some i else _) = (if pr v then some i else _)
    by_cases hp : pr v
    · rw [if_pos hp, if_pos hp]
    · rw [if_neg hp, if_neg hp, whT_fnd n (i + 1)]
      have key : ∀ (m j : Nat), i + 1 ≤ j → fnd (fun k => pr (itD P T 1 (-9) (k - (i + 1)) (dyS P T 1 (-9) v))) m j = fnd (fun k => pr (itD P T 1 (-9) (k - i) v)) m j := by
        intro m
        induction m with
        | zero => intro j _; rfl
        | succ m ih =>
          intro j hj
          unfold fnd
          rw [ih (j + 1) (by omega)]
          have e : j - i = (j - (i + 1)) + 1 := by omega
          rw [e]
          rfl
      exact key n (i + 1) (Nat.le_refl _)
theorem daysUntil_c {P T d : Nat} {v : SV} (w : WF v P T) (hd : sDa v = nI d) (hd2 : d ≤ 5000) {t : Nat} (ht : t < T) (b : Int32) : ∃ mi', M_X3_daysUntil v (nI t) b = some (oI (whT P T (fun u => (if isW u t then (1 : Int32) else 0) = b) 100 0 v), mi') := by
  have hT := w.2.1
  unfold M_X3_daysUntil
  refine fuelP (fun _ _ => none) (B_X3_daysUntil_2 (nI t) b) (fun k f => ∀ (i : Nat) (v : SV) (d : Nat), WF v P T → sDa v = nI d → d ≤ 5000 + i → i ≤ 100 → 100 - i < k → ∃ mi', f (nI i) v = some (oI (whT P T (fun u => (if isW u t then (1 : Int32) else 0) = b) (100 - i) i v), mi')) (fun i _ _ _ _ _ _ h => absurd h (Nat.not_lt_zero _)) (fun k f hf i v d w hd hd2 hi hk => ?_) FU 0 v d w hd (by omega) (by omega) (by rw [FU_eq]; omega)
  unfold B_X3_daysUntil_2
  rw [show (99 : Int32) = nI 99 from rfl, if_lt (by omega) (by omega)]
  by_cases h : 99 < i
  · rw [if_pos h, show 100 - i = 0 by omega]; exact ⟨_, rfl⟩
  · obtain ⟨w', hd'⟩ := dyS_wf (P := P) (T := T) (x := 1) (by omega) (-9) w hd (by omega)
    rw [if_neg h, isWhole_c v (by omega), b1s, pass1 w hd (by omega), b1s, ad1, show 100 - i = (100 - (i + 1)) + 1 by omega, whT_s]
    by_cases hb : (if isW v t then (1 : Int32) else 0) = b
    · rw [if_pos hb, if_pos hb]; exact ⟨_, rfl⟩
    · rw [if_neg hb, if_neg hb]
      exact hf (i + 1) _ (d + 1) w' hd' (by omega) (by omega) (by omega)
theorem whenIn_m {P T : Nat} (S b : Int32) (pr : SV → Prop) [DecidablePred pr] (hS : ∀ u, WF u P T → ((nI (wN u T) &&& S) = S ↔ pr u)) (hb : b = 0 ∨ b = 1) {F : Nat} (hF : F ≤ 1) {d : Nat} {v : SV} {r : Nat → Int32} (h : RR v (-9) r) (w : WF v P T) (hd : sDa v = nI d) (hd2 : d ≤ 5000) : ∃ mm', M_X4_whenIn r S b (nI F) = some (oI (if 0 < F then whT P T (fun u => (if pr u then (1 : Int32) else 0) = b) 99 1 (dyS P T 1 (-9) v) else whT P T (fun u => (if pr u then (1 : Int32) else 0) = b) 100 0 v), mm') := by
  unfold M_X4_whenIn
  have key := fuelP (fun _ _ => none) (B_X4_whenIn_3 S b (nI F)) (fun k f => ∀ (i : Nat) (v : SV) (r : Nat → Int32) (d : Nat), RR v (-9) r → WF v P T → sDa v = nI d → d ≤ 5000 + i → i ≤ 100 → 100 - i < k → ∃ mm', f (nI i) r = some (oI (if i < F then whT P T (fun u => (if pr u then (1 : Int32) else 0) = b) 99 1 (dyS P T 1 (-9) v) else whT P T (fun u => (if pr u then (1 : Int32) else 0) = b) (100 - i) i v), mm')) (fun i _ _ _ _ _ _ _ _ h => absurd h (Nat.not_lt_zero _)) (fun k f hf i v r d h w hd hd2 hi hk => by
    unfold B_X4_whenIn_3
    rw [show (99 : Int32) = nI 99 from rfl, if_lt (by omega) (by omega)]
    by_cases h9 : 99 < i
    · rw [if_pos h9, if_neg (show ¬ i < F by omega), show 100 - i = 0 by omega]; exact ⟨_, rfl⟩
    · obtain ⟨w', hd'⟩ := dyS_wf (P := P) (T := T) (x := 1) (by omega) (-9) w hd (by omega)
      obtain ⟨r1, h1, e1⟩ := day_m (P := P) (T := T) (x := 1) (by omega) h w hd (by omega)
      have e1' : M_X4_day r 1 = some r1 := e1
      obtain ⟨mm', hm⟩ := hf (i + 1) _ r1 (d + 1) h1 w' hd' (by omega) (by omega) (by omega)
      rw [if_neg (show ¬ i + 1 < F by omega)] at hm
      rw [if_neg h9, wholeSet_m h w, b1s, e1', b1s, ad1, hm, if_lt (by omega) (by omega), if_lt (by omega) (by omega)]
      by_cases hi0 : i < F
      · have : i = 0 := by omega
        subst this
        simp only [if_pos hi0, ite_self]
        exact ⟨_, rfl⟩
      · simp only [if_neg hi0]
        rw [show 100 - i = (100 - (i + 1)) + 1 by omega, whT_s]
        by_cases hp : pr v
        · rw [if_pos ((hS v w).mpr hp)]
          by_cases hb1 : (1 : Int32) = b
          · rw [if_pos hb1, if_pos (show (if pr v then (1 : Int32) else 0) = b by rw [if_pos hp]; exact hb1)]; exact ⟨_, rfl⟩
          · rw [if_neg hb1, if_neg (show ¬ (if pr v then (1 : Int32) else 0) = b by rw [if_pos hp]; exact hb1)]; exact ⟨_, rfl⟩
        · rw [if_neg (fun x => hp ((hS v w).mp x))]
          by_cases hb1 : (0 : Int32) = b
          · rw [if_pos hb1, if_pos (show (if pr v then (1 : Int32) else 0) = b by rw [if_neg hp]; exact hb1)]; exact ⟨_, rfl⟩
          · rw [if_neg hb1, if_neg (show ¬ (if pr v then (1 : Int32) else 0) = b by rw [if_neg hp]; exact hb1)]; exact ⟨_, rfl⟩) FU
  obtain ⟨mm', e⟩ := key 0 v r d h w hd (by omega) (by omega) (by rw [FU_eq]; omega)
  exact ⟨mm', e⟩
theorem bitT : ∀ n, n < 512 → ∀ t, t < 9 → ((nI n &&& ((1 : Int32) <<< (nI t &&& 31))) = ((1 : Int32) <<< (nI t &&& 31)) ↔ n.testBit t = true) := by decide +kernel
theorem bitAll : ∀ T, T < 10 → ∀ n, n < 2 ^ T → ((nI n &&& (((1 : Int32) <<< (nI T &&& 31)) - 1)) = (((1 : Int32) <<< (nI T &&& 31)) - 1) ↔ pcN n = T) := by decide +kernel
theorem one_set {P T t : Nat} (ht : t < T) (u : SV) (w : WF u P T) : (nI (wN u T) &&& ((1 : Int32) <<< (nI t &&& 31))) = ((1 : Int32) <<< (nI t &&& 31)) ↔ isW u t := by
  have hT := w.2.1
  rw [bitT _ (wN_lt w) t (by omega)]
  unfold wN
  rw [bS_bit]
  simp [ht]
theorem all_set {P T : Nat} (u : SV) (w : WF u P T) : (nI (wN u T) &&& (((1 : Int32) <<< (nI T &&& 31)) - 1)) = (((1 : Int32) <<< (nI T &&& 31)) - 1) ↔ cN u T = T := by
  have hT := w.2.1
  exact bitAll T (by omega) _ (bS_lt _ T)
theorem eq_again {no : SV} {ss rf re : Nat → Int32} (h : ST no ss) (q : RF rf re) (mi : SV) (mm : Nat → Int32) (a b : Int32) : ∃ r mi' rf' mm' re', M_X3_again no mi rf a b = some (r, mi', rf') ∧ M_X4_again ss mm re a b = some (r, mm', re') ∧ RF rf' re' := by
  obtain ⟨P, T, d, w, hd, hd2, hr⟩ := id h
  have hT := w.2.1
  unfold M_X3_again M_X4_again M_X4_whenOf
  rw [isT_c, chkc, isT_m hr w, chkc, isIn_m]
  by_cases ht : 0 ≤ a ∧ a < sTh no
  · rw [if_pos ht, if_pos ht]
    rw [w.2.2.2.1] at ht
    obtain ⟨t, ht1, rfl⟩ := ix_of (by omega) ht
    by_cases hb : b < 0
    · rw [if_pos hb, if_pos hb, b1s, if_pos rfl]
      obtain ⟨rf', re', e1, e2, q'⟩ := refu q (c := -2) (by decide)
      rw [e1, e2, b2s, b2s]
      exact ⟨_, _, _, _, _, rfl, rfl, q'⟩
    rw [if_neg hb, if_neg hb]
    by_cases hb1 : b ≤ 1
    · obtain ⟨m1, e1⟩ := daysUntil_c w hd (by omega) ht1 1
      obtain ⟨m0, e0⟩ := daysUntil_c w hd (by omega) ht1 0
      obtain ⟨n1, f1⟩ := whenIn_m (P := P) (T := T) ((1 : Int32) <<< (nI t &&& 31)) 1 (fun u => isW u t) (fun u wu => one_set ht1 u wu) (Or.inr rfl) (F := 0) (by omega) hr w hd (by omega)
      obtain ⟨n0, f0⟩ := whenIn_m (P := P) (T := T) ((1 : Int32) <<< (nI t &&& 31)) 0 (fun u => isW u t) (fun u wu => one_set ht1 u wu) (Or.inl rfl) (F := 0) (by omega) hr w hd (by omega)
      rw [if_neg (show ¬ 0 < 0 by omega)] at f1 f0
      have f1' : M_X4_whenIn ss ((1 : Int32) <<< (nI t &&& 31)) 1 0 = some (oI (whT P T (fun u => (if isW u t then (1 : Int32) else 0) = 1) 100 0 no), n1) := f1
      have f0' : M_X4_whenIn ss ((1 : Int32) <<< (nI t &&& 31)) 0 0 = some (oI (whT P T (fun u => (if isW u t then (1 : Int32) else 0) = 0) 100 0 no), n0) := f0
      rw [if_pos hb1, if_neg (Int32.not_lt.mpr hb1), b1s, if_neg (show ¬ (1 : Int32) = 0 by decide), become_c, b1s, e1, e0, b2s, b2s]
      simp only [copies_m, b1s]
      rw [f1', f0', b2s, b2s, b2s, b2s]
      by_cases h0 : b = 0
      · rw [if_pos h0, if_pos h0]
        exact ⟨_, _, _, _, _, rfl, rfl, q⟩
      · rw [if_neg h0, if_neg h0]
        exact ⟨_, _, _, _, _, rfl, rfl, q⟩
    · rw [if_neg hb1, if_pos (Int32.not_le.mp hb1), b1s, if_pos rfl]
      obtain ⟨rf', re', e1, e2, q'⟩ := refu q (c := -2) (by decide)
      rw [e1, e2, b2s, b2s]
      exact ⟨_, _, _, _, _, rfl, rfl, q'⟩
  · rw [if_neg ht, if_neg ht]
    obtain ⟨rf', re', e1, e2, q'⟩ := refu q (c := -1) (by decide)
    rw [e1, e2, b2s, b2s]
    exact ⟨_, _, _, _, _, rfl, rfl, q'⟩
theorem allWhole_c {P T d : Nat} {v : SV} (w : WF v P T) (hd : sDa v = nI d) (hd2 : d ≤ 5000) (mi : SV) : ∃ mi', M_X3_daysUntilAllWhole v mi = some (oI (whT P T (fun u => cN u T = T) 100 0 v), mi') := by
  have hT := w.2.1
  unfold M_X3_daysUntilAllWhole
  rw [become_c, b1s]
  refine fuelP (fun _ _ => none) (B_X3_daysUntilAllWhole_13 v) (fun k f => ∀ (i : Nat) (u : SV) (d : Nat), WF u P T → sDa u = nI d → d ≤ 5000 + i → i ≤ 100 → 100 - i < k → ∃ mi', f (nI i) u = some (oI (whT P T (fun u => cN u T = T) (100 - i) i u), mi')) (fun i _ _ _ _ _ _ h => absurd h (Nat.not_lt_zero _)) (fun k f hf i u d w hd hd2 hi hk => ?_) FU 0 v d w hd (by omega) (by omega) (by rw [FU_eq]; omega)
  unfold B_X3_daysUntilAllWhole_13
  rw [show (99 : Int32) = nI 99 from rfl, if_lt (by omega) (by omega)]
  by_cases h : 99 < i
  · rw [if_pos h, show 100 - i = 0 by omega]; exact ⟨_, rfl⟩
  · obtain ⟨w', hd'⟩ := dyS_wf (P := P) (T := T) (x := 1) (by omega) (-9) w hd (by omega)
    have hc : cN u T ≤ 9 := pcN_le _
    rw [if_neg h, wholeCount_c w, b1s, w.2.2.2.1, if_eq (by omega) (by omega), pass1 w hd (by omega), b1s, ad1, show 100 - i = (100 - (i + 1)) + 1 by omega, whT_s]
    by_cases hb : cN u T = T
    · rw [if_pos hb, if_pos hb]; exact ⟨_, rfl⟩
    · rw [if_neg hb, if_neg hb]
      exact hf (i + 1) _ (d + 1) w' hd' (by omega) (by omega) (by omega)
theorem eq_mourned {no : SV} {ss rf re : Nat → Int32} (h : ST no ss) (q : RF rf re) (mi : SV) (mm : Nat → Int32) (b : Int32) : ∃ r mi' rf' mm' re', M_X3_mourned no mi rf b = some (r, mi', rf') ∧ M_X4_mourned ss mm re b = some (r, mm', re') ∧ RF rf' re' := by
  obtain ⟨P, T, d, w, hd, hd2, hr⟩ := id h
  have hT := w.2.1
  unfold M_X3_mourned M_X4_mourned M_X4_whenOf
  rw [isIn_m]
  by_cases hb : b < 0
  · rw [if_pos hb, if_pos hb, b1s, if_pos rfl]
    obtain ⟨rf', re', e1, e2, q'⟩ := refu q (c := -2) (by decide)
    rw [e1, e2, b2s, b2s]
    exact ⟨_, _, _, _, _, rfl, rfl, q'⟩
  rw [if_neg hb, if_neg hb]
  by_cases hb1 : b ≤ 1
  · rw [if_pos hb1, if_neg (Int32.not_lt.mpr hb1), b1s, if_neg (show ¬ (1 : Int32) = 0 by decide)]
    obtain ⟨k, -, hk, rfl⟩ := rng (a := 0) (b := 1) (by omega) (Int32.not_lt.mp hb) hb1 (by omega)
    by_cases hk0 : k = 0
    · subst hk0
      have c1 : M_X2_mournedBits no = some (nI (bS (fun t => sBr no t = -8) T)) := by
        unfold M_X2_mournedBits
        refine bitL (fun _ _ => none) (B_X2_mournedBits_4 no) _ T some (by omega) (fun f acc => ?_) (fun f acc i hi => ?_)
        · unfold B_X2_mournedBits_4
          rw [w.2.2.2.1, if_pos (Int32.le_refl _)]
        · unfold B_X2_mournedBits_4
          rw [w.2.2.2.1, if_le (by omega) (by omega), if_neg (show ¬ T ≤ i by omega), isMourned_c no (by omega), b1s, ad1, or_zero]
          by_cases hm : sBr no i = -8
          · rw [if_pos hm, if_neg (show ¬ (1 : Int32) = 0 by decide), if_pos hm]
          · rw [if_neg hm, if_pos rfl, if_neg hm]
      have c2 : fuel (fun _ _ => none) (B_X4_mourned_41 ss mm re) FU 0 0 = some (nI (bS (fun t => sBr no t = -8) T), mm, re) := by
        refine bitL (fun _ _ => none) (B_X4_mourned_41 ss mm re) _ T (fun s => some (s, mm, re)) (by omega) (fun f acc => ?_) (fun f acc i hi => ?_)
        · unfold B_X4_mourned_41
          rw [hr.th, w.2.2.2.1, if_pos (Int32.le_refl _)]
        · unfold B_X4_mourned_41
          rw [hr.th, w.2.2.2.1, if_le (by omega) (by omega), if_neg (show ¬ T ≤ i by omega), ofT_nI, b1s, ad4, chk_nI (by omega) (by omega), nI_clamp (by omega), hr.br (by omega), ad1, or_zero]
      rw [if_pos (show nI 0 = 0 from rfl), if_neg (show ¬ nI 0 = 1 by decide), c1, b1s, c2]
      exact ⟨_, _, _, _, _, rfl, rfl, q⟩
    · have hk1 : k = 1 := by omega
      subst hk1
      obtain ⟨m1, e1⟩ := allWhole_c w hd (by omega) mi
      obtain ⟨n1, f1⟩ := whenIn_m (P := P) (T := T) (((1 : Int32) <<< (nI T &&& 31)) - 1) 1 (fun u => cN u T = T) (fun u wu => all_set u wu) (Or.inr rfl) (F := 0) (by omega) hr w hd (by omega)
      rw [if_neg (show ¬ 0 < 0 by omega), whT_cong (qr := fun u => cN u T = T) (fun u => by
        by_cases x : cN u T = T
        · simp [x]
        · simp [x])] at f1
      have f1' : M_X4_whenIn ss (((1 : Int32) <<< (nI T &&& 31)) - 1) 1 0 = some (oI (whT P T (fun u => cN u T = T) 100 0 no), n1) := f1
      rw [if_neg (show ¬ nI 1 = 0 by decide), if_pos (show nI 1 = 1 from rfl), e1, b2s, hr.th, w.2.2.2.1, copies_m, b1s, f1', b2s, b2s]
      exact ⟨_, _, _, _, _, rfl, rfl, q⟩
  · rw [if_neg hb1, if_pos (Int32.not_le.mp hb1), b1s, if_pos rfl]
    obtain ⟨rf', re', e1, e2, q'⟩ := refu q (c := -2) (by decide)
    rw [e1, e2, b2s, b2s]
    exact ⟨_, _, _, _, _, rfl, rfl, q'⟩
/-! ### breaker -/
theorem oI_cases (o : Option Nat) {n : Nat} (h : ∀ k, o = some k → k < n) : (oI o = -9 ∧ o = none) ∨ ∃ k, k < n ∧ oI o = nI k ∧ o = some k := by
  cases o with
  | none => exact Or.inl ⟨rfl, rfl⟩
  | some k => exact Or.inr ⟨k, h k rfl, rfl, rfl⟩
theorem eq_breaker {no : SV} {ss rf re : Nat → Int32} (h : ST no ss) (q : RF rf re) (mi : SV) (mm : Nat → Int32) (a : Int32) : ∃ r mi' rf' mm' re', M_X3_breaker no mi rf a = some (r, mi', rf') ∧ M_X4_breaker ss mm re a = some (r, mm', re') ∧ RF rf' re' := by
  obtain ⟨P, T, d, w, hd, hd2, hr⟩ := id h
  have hP := w.1
  have hT := w.2.1
  unfold M_X3_breaker M_X4_breaker
  rw [isT_c, chkc, wrongBreak_m hr w, if_neg (show ¬ (1 : Int32) = 0 by decide)]
  by_cases ht : 0 ≤ a ∧ a < sTh no
  · rw [if_pos ht, if_pos ht]
    rw [w.2.2.2.1] at ht
    obtain ⟨t, ht1, rfl⟩ := ix_of (by omega) ht
    rw [isWhole_c no (by omega), isWhole_m ss (by omega), hr.br (by omega), chkc, chkc]
    by_cases hw : sBr no t = -9
    · rw [if_pos hw, if_pos hw, b1s, if_pos rfl]
      have key := fuelP2 (fun _ _ _ _ => none) (B_X3_breaker_44 (nI t) no rf) (fun _ _ _ _ => none) (B_X4_breaker_27 (nI t) ss re) (fun n f g => ∀ (i : Nat) (x y z : Int32) (mi : SV) (mm : Nat → Int32), i ≤ P → P - i < n → ((y = 100 ∧ z = 1000000000) ∨ ∃ c : Nat, c < 100 ∧ y = nI c ∧ z = nI c) → ∃ o mi' mm', f x y (nI i) mi = some (o, mi', rf) ∧ g x z (nI i) mm = some (o, mm', re)) (fun i x y z mi mm _ h => absurd h (Nat.not_lt_zero _)) (fun k f g hf i x y z mi mm hi hk hyz => by
        unfold B_X3_breaker_44 B_X4_breaker_27
        rw [hr.pe, w.2.2.1, if_le (by omega) (by omega), if_le (by omega) (by omega)]
        by_cases hh : P ≤ i
        · rw [if_pos hh, if_pos hh]; exact ⟨_, _, _, rfl, rfl⟩
        · have w' : WF (sUBr no (upd (sBr no) t (nI i))) P T := w.uBr t (Or.inr (Or.inr ⟨i, by omega, rfl⟩))
          have r' := hr.uBr t (by omega) (nI i)
          have hb0 : sBr (sUBr no (upd (sBr no) t (nI i))) t = nI i := up_s
          have hn9 : ¬ isW (sUBr no (upd (sBr no) t (nI i))) t := fun e => absurd (show (-9 : Int32) < 0 by decide) (by rw [← e, hb0]; exact nI_pos (by omega))
          obtain ⟨m1, e1⟩ := daysUntil_c w' (show sDa (sUBr no (upd (sBr no) t (nI i))) = nI d from hd) (by omega) ht1 1
          obtain ⟨n1, f1⟩ := whenIn_m (P := P) (T := T) ((1 : Int32) <<< (nI t &&& 31)) 1 (fun u => isW u t) (fun u wu => one_set ht1 u wu) (Or.inr rfl) (F := 1) (by omega) r' w' (show sDa (sUBr no (upd (sBr no) t (nI i))) = nI d from hd) (by omega)
          rw [if_pos (show 0 < 1 by omega)] at f1
          have e0 : whT P T (fun u => (if isW u t then (1 : Int32) else 0) = 1) 100 0 (sUBr no (upd (sBr no) t (nI i))) = whT P T (fun u => (if isW u t then (1 : Int32) else 0) = 1) 99 1 (dyS P T 1 (-9) (sUBr no (upd (sBr no) t (nI i)))) := by
            show (if (if isW (sUBr no (upd (sBr no) t (nI i))) t then (1 : Int32) else 0) = 1 then some 0 else _) = _
            rw [if_neg (by rw [if_neg hn9]; decide)]
          rw [e0] at e1
          have f1' : M_X4_whenIn (upd ss (16 + 5 * t + 4) (nI i)) ((1 : Int32) <<< (nI t &&& 31)) 1 1 = some (oI (whT P T (fun u => (if isW u t then (1 : Int32) else 0) = 1) 99 1 (dyS P T 1 (-9) (sUBr no (upd (sBr no) t (nI i))))), n1) := f1
          rw [if_neg hh, if_neg hh, become_c, b1s, chk_nI (by omega) (by omega), nI_clamp (by omega), e1, b2s, copies_m, b1s, ofT_nI, b1s, ad4, chk_nI (by omega) (by omega), nI_clamp (by omega), f1', b2s, ad1]
          rcases oI_cases (whT P T (fun u => (if isW u t then (1 : Int32) else 0) = 1) 99 1 (dyS P T 1 (-9) (sUBr no (upd (sBr no) t (nI i))))) (n := 100) (fun k hk => (whT_lt hk).2) with ⟨eo, -⟩ | ⟨c, hc, eo, -⟩
          · rw [eo, if_pos rfl, if_pos (show (-9 : Int32) < 0 by decide)]
            exact hf (i + 1) x y z _ _ (by omega) (by omega) hyz
          · have hc9 : ¬ nI c = -9 := fun e => absurd (show (-9 : Int32) < 0 by decide) (by rw [← e]; exact nI_pos (by omega))
            rw [eo, if_neg hc9, if_neg (nI_pos (show c < 2 ^ 31 by omega))]
            rcases hyz with ⟨rfl, rfl⟩ | ⟨c2, hc2, rfl, rfl⟩
            · rw [show (100 : Int32) = nI 100 from rfl, show (1000000000 : Int32) = nI 1000000000 from rfl, if_le (by omega) (by omega), if_lt (by omega) (by omega), if_neg (show ¬ 100 ≤ c by omega), if_pos (show c < 1000000000 by omega)]
              exact hf (i + 1) _ _ _ _ _ (by omega) (by omega) (Or.inr ⟨c, hc, rfl, rfl⟩)
            · rw [if_le (by omega) (by omega), if_lt (by omega) (by omega)]
              by_cases hcc : c2 ≤ c
              · rw [if_pos hcc, if_neg (show ¬ c < c2 by omega)]
                exact hf (i + 1) _ _ _ _ _ (by omega) (by omega) (Or.inr ⟨c2, hc2, rfl, rfl⟩)
              · rw [if_neg hcc, if_pos (show c < c2 by omega)]
                exact hf (i + 1) _ _ _ _ _ (by omega) (by omega) (Or.inr ⟨c, hc, rfl, rfl⟩)) FU
      obtain ⟨o, m1, m2, e1, e2⟩ := key 0 (-9) 100 1000000000 mi mm (Nat.zero_le _) (by rw [FU_eq]; omega) (Or.inl ⟨rfl, rfl⟩)
      exact ⟨_, _, _, _, _, e1, e2, q⟩
    · rw [if_neg hw, if_neg hw, b1s, if_neg (show ¬ (-3 : Int32) = 0 by decide)]
      obtain ⟨rf', re', e1, e2, q'⟩ := refu q (c := -3) (by decide)
      rw [e1, e2, b2s, b2s]
      exact ⟨_, _, _, _, _, rfl, rfl, q'⟩
  · rw [if_neg ht, if_neg ht, b1s, if_neg (show ¬ (-1 : Int32) = 0 by decide)]
    obtain ⟨rf', re', e1, e2, q'⟩ := refu q (c := -1) (by decide)
    rw [e1, e2, b2s, b2s]
    exact ⟨_, _, _, _, _, rfl, rfl, q'⟩
