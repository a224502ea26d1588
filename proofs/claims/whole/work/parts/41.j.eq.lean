/-! ### two -/
def blsS (v : SV) (x y : Int32) (T : Nat) : SV := match fnd (fun t => sOw v t = x ∧ isW v t) T 0 with
  | none => v
  | some t => sUBr v (upd (sBr v) t y)
theorem blsS_wf {v : SV} {P T : Nat} (w : WF v P T) (x : Int32) {p : Nat} (hp : p < P) : WF (blsS v x (nI p) T) P T := by
  unfold blsS
  split
  · exact w
  · exact w.uBr _ (Or.inr (Or.inr ⟨p, hp, rfl⟩))
theorem blsS_da (v : SV) (x y : Int32) (T : Nat) : sDa (blsS v x y T) = sDa v := by
  unfold blsS
  split <;> rfl
theorem bls_c {v : SV} {P T : Nat} (w : WF v P T) (x y : Int32) : M_X2_breakLeastOf v x y = some (blsS v x y T) := by
  have hT := w.2.1
  have e : M_X2_breakLeastOf v x y = (match fnd (fun t => sOw v t = x ∧ isW v t) T 0 with | none => some v | some t => some (sUBr v (upd (sBr v) t y))) := by
    unfold M_X2_breakLeastOf
    refine findL (fun _ => none) (B_X2_breakLeastOf_2 x y v) _ T (some v) (fun t => some (sUBr v (upd (sBr v) t y))) (by omega) (fun f => ?_) (fun f i hi => ?_)
    · unfold B_X2_breakLeastOf_2
      rw [w.2.2.2.1, if_pos (Int32.le_refl _)]
    · unfold B_X2_breakLeastOf_2
      rw [w.2.2.2.1, if_le (by omega) (by omega), if_neg (by omega), isWhole_c v (by omega), b1s, chk_nI (by omega) (by omega), chk_nI (by omega) (by omega), nI_clamp (by omega), ad1]
      by_cases h1 : sOw v i = x
      · rw [if_pos h1]
        by_cases h2 : isW v i
        · rw [if_pos h2, if_neg (show ¬ (1 : Int32) = 0 by decide), if_pos ⟨h1, h2⟩]
        · rw [if_neg h2, if_pos rfl, if_neg (fun q => h2 q.2)]
      · rw [if_neg h1, if_neg (fun q => h1 q.1)]
  rw [e]
  unfold blsS
  cases fnd (fun t => sOw v t = x ∧ isW v t) T 0 <;> rfl
theorem bls_m {v : SV} {r : Nat → Int32} {P T : Nat} (h : RR v (-9) r) (w : WF v P T) (x y : Int32) : ∃ r', RR (blsS v x y T) (-9) r' ∧ M_X4_breaksLeast r y x = some r' := by
  have hT := w.2.1
  have e : M_X4_breaksLeast r y x = (match fnd (fun t => sOw v t = x ∧ isW v t) T 0 with | none => some r | some t => some (upd r (16 + 5 * t + 4) y)) := by
    unfold M_X4_breaksLeast
    refine findL (fun _ => none) (B_X4_breaksLeast_2 y x r) _ T (some r) (fun t => some (upd r (16 + 5 * t + 4) y)) (by omega) (fun f => ?_) (fun f i hi => ?_)
    · unfold B_X4_breaksLeast_2
      rw [h.th, w.2.2.2.1, if_pos (Int32.le_refl _)]
    · unfold B_X4_breaksLeast_2
      rw [h.th, w.2.2.2.1, if_le (by omega) (by omega), if_neg (by omega), isWhole_m r (by omega), h.br (by omega), b1s, ofT_nI, b1s, b1s, ad2, ad4, chk_nI (by omega) (by omega), chk_nI (by omega) (by omega), nI_clamp (by omega), nI_clamp (by omega), h.ow (by omega), ad1]
      by_cases h2 : isW v i
      · rw [if_pos h2, if_neg (show ¬ (1 : Int32) = 0 by decide)]
        by_cases h1 : sOw v i = x
        · rw [if_pos h1, if_pos ⟨h1, h2⟩]
        · rw [if_neg h1, if_neg (fun q => h1 q.1)]
      · rw [if_neg h2, if_pos rfl, if_neg (fun q => h2 q.2)]
  rw [e]
  unfold blsS
  cases hf : fnd (fun t => sOw v t = x ∧ isW v t) T 0 with
  | none => exact ⟨r, h, rfl⟩
  | some t => exact ⟨_, h.uBr t (by have := (fnd_some hf).2.1; omega) y, rfl⟩
def woI (v : SV) (x : Int32) (T : Nat) : Int32 := sumF (fun t => if sOw v t = x ∧ isW v t then 1 else 0) T
theorem wholeOf_c {v : SV} {P T : Nat} (w : WF v P T) (x : Int32) : M_X2_wholeOf v x = some (woI v x T) := by
  have hT := w.2.1
  unfold M_X2_wholeOf woI
  refine sumL (fun _ _ => none) (B_X2_wholeOf_4 x v) _ T some (by omega) (fun f acc => ?_) (fun f acc i hi => ?_)
  · unfold B_X2_wholeOf_4
    rw [w.2.2.2.1, if_pos (Int32.le_refl _)]
  · unfold B_X2_wholeOf_4
    rw [w.2.2.2.1, if_le (by omega) (by omega), if_neg (by omega), isWhole_c v (by omega), b1s, chk_nI (by omega) (by omega), nI_clamp (by omega), ad1]
    by_cases h1 : sOw v i = x
    · rw [if_pos h1]
      by_cases h2 : isW v i
      · rw [if_pos h2, if_neg (show ¬ (1 : Int32) = 0 by decide), if_pos ⟨h1, h2⟩]
      · rw [if_neg h2, if_pos rfl, if_neg (fun q => h2 q.2)]
    · rw [if_neg h1, if_neg (fun q => h1 q.1)]
theorem wholeOf_m {v : SV} {r : Nat → Int32} {P T : Nat} (h : RR v (-9) r) (w : WF v P T) (ss : Nat → Int32) (x : Int32) : fuel (fun _ _ => none) (B_X4_ownBy_51 x ss r) FU 0 0 = some (woI v x T, r) := by
  have hT := w.2.1
  unfold woI
  refine sumL (fun _ _ => none) (B_X4_ownBy_51 x ss r) _ T (fun s => some (s, r)) (by omega) (fun f acc => ?_) (fun f acc i hi => ?_)
  · unfold B_X4_ownBy_51
    rw [h.th, w.2.2.2.1, if_pos (Int32.le_refl _)]
  · unfold B_X4_ownBy_51
    rw [h.th, w.2.2.2.1, if_le (by omega) (by omega), if_neg (by omega), isWhole_m r (by omega), h.br (by omega), b1s, ofT_nI, b1s, ad2, chk_nI (by omega) (by omega), nI_clamp (by omega), h.ow (by omega), ad1]
    by_cases h2 : isW v i
    · rw [if_pos h2, if_neg (show ¬ (1 : Int32) = 0 by decide)]
      by_cases h1 : sOw v i = x
      · rw [if_pos h1, if_pos ⟨h1, h2⟩]
      · rw [if_neg h1, if_neg (fun q => h1 q.1)]
    · rw [if_neg h2, if_pos rfl, if_neg (fun q => h2 q.2)]
/-- what becomes by a pair of choices -/
def pr1 (no : SV) (a b : Int32) (i T : Nat) : SV := if i = 1 then blsS no b a T else no
def pr2 (no : SV) (a b : Int32) (i j T : Nat) : SV := if j = 1 then blsS (pr1 no a b i T) a b T else pr1 no a b i T
def prS (no : SV) (a b : Int32) (n P T i j : Nat) : SV := itD P T 1 (-9) n (pr2 no a b i j T)
theorem pr1_wf {no : SV} {P T a b i : Nat} (w : WF no P T) (ha : a < P) : WF (pr1 no (nI a) (nI b) i T) P T := by
  unfold pr1
  split
  · exact blsS_wf w _ ha
  · exact w
theorem pr1_da (no : SV) (a b : Int32) (i T : Nat) : sDa (pr1 no a b i T) = sDa no := by
  unfold pr1
  split
  · exact blsS_da _ _ _ _
  · rfl
theorem pr2_wf {no : SV} {P T a b i j : Nat} (w : WF no P T) (ha : a < P) (hb : b < P) : WF (pr2 no (nI a) (nI b) i j T) P T := by
  unfold pr2
  split
  · exact blsS_wf (pr1_wf w ha) _ hb
  · exact pr1_wf w ha
theorem pr2_da (no : SV) (a b : Int32) (i j T : Nat) : sDa (pr2 no a b i j T) = sDa no := by
  unfold pr2
  split
  · exact (blsS_da _ _ _ _).trans (pr1_da _ _ _ _ _)
  · exact pr1_da _ _ _ _ _
theorem ownBy_m {no : SV} {ss : Nat → Int32} {P T d n a b i j : Nat} (h : RR no (-9) ss) (w : WF no P T) (hd : sDa no = nI d) (hd2 : d ≤ 999) (hn : n ≤ 99) (ha : a < P) (hb : b < P) (hi : i < 2) (hj : j < 2) (x : Int32) (mm : Nat → Int32) : ∃ mm', M_X4_ownBy ss mm x (nI a) (nI i) (nI b) (nI j) (nI n) = some (woI (prS no (nI a) (nI b) n P T i j) x T, mm') := by
  have w1 := pr1_wf (b := b) (i := i) w ha
  have w2 := pr2_wf (i := i) (j := j) w ha hb
  have d2 : sDa (pr2 no (nI a) (nI b) i j T) = nI d := (pr2_da _ _ _ _ _ _).trans hd
  have fin : ∀ r, RR (pr2 no (nI a) (nI b) i j T) (-9) r → ∃ mm', (bnd1 (M_X4_daysOn r (nI n)) fun u42_mm => fuel (fun _ _ => none) (B_X4_ownBy_51 x ss u42_mm) FU (0 : Int32) (0 : Int32)) = some (woI (prS no (nI a) (nI b) n P T i j) x T, mm') := fun r hr => by
    obtain ⟨r', h', e⟩ := daysOn_m (P := P) (T := T) (N := n) (by omega) hr w2 d2 (by omega)
    obtain ⟨w', -⟩ := itD_wf (P := P) (T := T) (x := 1) (by omega) (-9) n w2 d2 (by omega)
    rw [e, b1s, wholeOf_m h' w']
    exact ⟨r', rfl⟩
  unfold M_X4_ownBy
  rw [copies_m, b1s, show (1 : Int32) = nI 1 from rfl, if_eq (by omega) (by omega)]
  by_cases h1 : i = 1
  · obtain ⟨r1, q1, e1⟩ := bls_m h w (nI b) (nI a)
    rw [if_pos h1, e1, b1s, if_eq (by omega) (by omega)]
    have hp : pr1 no (nI a) (nI b) i T = blsS no (nI b) (nI a) T := by unfold pr1; rw [if_pos h1]
    rw [← hp] at q1
    by_cases h2 : j = 1
    · obtain ⟨r2, q2, e2⟩ := bls_m q1 w1 (nI a) (nI b)
      rw [if_pos h2, e2, b1s]
      refine fin r2 ?_
      unfold pr2
      rw [if_pos h2]
      exact q2
    · rw [if_neg h2]
      refine fin r1 ?_
      unfold pr2
      rw [if_neg h2]
      exact q1
  · rw [if_neg h1, if_eq (by omega) (by omega)]
    have q1 : RR (pr1 no (nI a) (nI b) i T) (-9) ss := by unfold pr1; rw [if_neg h1]; exact h
    by_cases h2 : j = 1
    · obtain ⟨r2, q2, e2⟩ := bls_m q1 w1 (nI a) (nI b)
      rw [if_pos h2, e2, b1s]
      refine fin r2 ?_
      unfold pr2
      rw [if_pos h2]
      exact q2
    · rw [if_neg h2]
      refine fin ss ?_
      unfold pr2
      rw [if_neg h2]
      exact q1
theorem pr_bits : ∀ k, k < 4 → ((nI k &&& (2 : Int32)) = 0 ↔ ¬ k / 2 = 1) ∧ ((nI k &&& (1 : Int32)) = 0 ↔ ¬ k % 2 = 1) := by decide +kernel
theorem pr_xor : ∀ k, k < 4 → (nI k ^^^ (2 : Int32)) = nI (2 * (1 - k / 2) + k % 2) ∧ (nI k ^^^ (1 : Int32)) = nI (2 * (k / 2) + (1 - k % 2)) := by decide +kernel
theorem pr_div : ∀ k, k < 4 → nI k / (2 : Int32) = nI (k / 2) ∧ (nI k - nI k / (2 : Int32) * (2 : Int32)) = nI (k % 2) ∧ ((1 : Int32) - nI (k / 2)) = nI (1 - k / 2) ∧ ((1 : Int32) - nI (k % 2)) = nI (1 - k % 2) := by decide +kernel
theorem think_c {no : SV} {P T d n a b k : Nat} (w : WF no P T) (hd : sDa no = nI d) (hd2 : d ≤ 999) (hn : n ≤ 99) (ha : a < P) (hb : b < P) (hk : k < 4) (mi : SV) (fh oh : Nat → Int32) : M_X3_thinkOut no mi fh oh (nI a) (nI b) (nI n) (nI k) = some (prS no (nI a) (nI b) n P T (k / 2) (k % 2), upd fh k (woI (prS no (nI a) (nI b) n P T (k / 2) (k % 2)) (nI a) T), upd oh k (woI (prS no (nI a) (nI b) n P T (k / 2) (k % 2)) (nI b) T)) := by
  have w1 := pr1_wf (b := b) (i := k / 2) w ha
  have w2 := pr2_wf (i := k / 2) (j := k % 2) w ha hb
  have d2 : sDa (pr2 no (nI a) (nI b) (k / 2) (k % 2) T) = nI d := (pr2_da _ _ _ _ _ _).trans hd
  obtain ⟨w', -⟩ := itD_wf (P := P) (T := T) (x := 1) (by omega) (-9) n w2 d2 (by omega)
  obtain ⟨p1, p2⟩ := pr_bits k hk
  have fin : (bnd1 (M_X2_pass (pr2 no (nI a) (nI b) (k / 2) (k % 2) T) (nI n) (1 : Int32) (-9 : Int32)) fun u51_mi => bnd1 (M_X2_wholeOf u51_mi (nI a)) fun r65 => chk (nI k) 4 (bnd1 (M_X2_wholeOf u51_mi (nI b)) fun r80 => chk (nI k) 4 (some (u51_mi, (upd fh (Int32.toNatClampNeg (nI k)) r65), (upd oh (Int32.toNatClampNeg (nI k)) r80))))) = some (prS no (nI a) (nI b) n P T (k / 2) (k % 2), upd fh k (woI (prS no (nI a) (nI b) n P T (k / 2) (k % 2)) (nI a) T), upd oh k (woI (prS no (nI a) (nI b) n P T (k / 2) (k % 2)) (nI b) T)) := by
    rw [pass_1 (-9) (by omega) w2 d2 (by omega), b1s, wholeOf_c w', b1s, wholeOf_c w', chk_nI hk (by omega), b1s, chk_nI hk (by omega), nI_clamp (by omega)]
    rfl
  unfold M_X3_thinkOut
  rw [become_c, b1s]
  by_cases h1 : k / 2 = 1
  · have e1 : pr1 no (nI a) (nI b) (k / 2) T = blsS no (nI b) (nI a) T := by unfold pr1; rw [if_pos h1]
    rw [if_neg (fun x => p1.mp x h1), bls_c w, b1s, ← e1]
    by_cases h2 : k % 2 = 1
    · have e2 : pr2 no (nI a) (nI b) (k / 2) (k % 2) T = blsS (pr1 no (nI a) (nI b) (k / 2) T) (nI a) (nI b) T := by unfold pr2; rw [if_pos h2]
      rw [if_neg (fun x => p2.mp x h2), bls_c w1, b1s, ← e2]
      exact fin
    · have e2 : pr2 no (nI a) (nI b) (k / 2) (k % 2) T = pr1 no (nI a) (nI b) (k / 2) T := by unfold pr2; rw [if_neg h2]
      rw [if_pos (p2.mpr h2), ← e2]
      exact fin
  · have e1 : pr1 no (nI a) (nI b) (k / 2) T = no := by unfold pr1; rw [if_neg h1]
    rw [if_pos (p1.mpr h1)]
    by_cases h2 : k % 2 = 1
    · have e2 : pr2 no (nI a) (nI b) (k / 2) (k % 2) T = blsS no (nI a) (nI b) T := by unfold pr2; rw [if_pos h2, e1]
      rw [if_neg (fun x => p2.mp x h2), bls_c w, b1s, ← e2]
      exact fin
    · have e2 : pr2 no (nI a) (nI b) (k / 2) (k % 2) T = no := by unfold pr2; rw [if_neg h2, e1]
      rw [if_pos (p2.mpr h2)]
      rw [e2] at fin
      exact fin
theorem eq_two {no : SV} {ss rf re : Nat → Int32} (h : ST no ss) (q : RF rf re) (mi : SV) (mm fh oh : Nat → Int32) (x y z : Int32) : ∃ r mi' rf' fh' oh' mm' re', M_X3_two no mi rf fh oh x y z = some (r, mi', rf', fh', oh') ∧ M_X4_two ss mm re x y z = some (r, mm', re') ∧ RF rf' re' := by
  obtain ⟨P, T, d, w, hd, hd2, hr⟩ := id h
  have hP := w.1
  have refus : ∀ c : Int32, (c = -1 ∨ c = -2 ∨ c = -3 ∨ c = -4 ∨ c = -6) → ∃ r mi' rf' fh' oh' mm' re', (bnd2 (M_X3_refuse rf c) fun r29 u29_rf => some (r29, mi, u29_rf, fh, oh)) = some (r, mi', rf', fh', oh') ∧ (bnd2 (M_X4_no re c) fun r41 u41_re => some (r41, mm, u41_re)) = some (r, mm', re') ∧ RF rf' re' := fun c hc => by
    obtain ⟨rf', re', e1, e2, q'⟩ := refu q hc
    rw [e1, e2, b2s, b2s]
    exact ⟨_, _, _, _, _, _, _, rfl, rfl, q'⟩
  unfold M_X3_two M_X4_two
  rw [isP_c, chkc, isP_c, chkc, isP_m hr w, chkc, isP_m hr w, chkc]
  by_cases hx : 0 ≤ x ∧ x < sPe no
  · rw [if_pos hx, if_pos hx]
    by_cases hy : 0 ≤ y ∧ y < sPe no
    · rw [if_pos hy, if_pos hy]
      by_cases hxy : x = y
      · rw [if_pos hxy, if_pos hxy]; exact refus (-1) (by decide)
      rw [if_neg hxy, if_neg hxy, outside_c, b1s, wrongBy_m, b1s]
      rw [w.2.2.1] at hx hy
      obtain ⟨a, ha, rfl⟩ := ix_of (by omega) hx
      obtain ⟨b, hb, rfl⟩ := ix_of (by omega) hy
      rcases lim_cases z 99 (by omega) with ⟨n, hn, rfl, h1, h2⟩ | ⟨h1, h2⟩ | h1
      · rw [if_pos h1, if_pos (show nI n ≤ 99 from h2), if_pos rfl, if_pos rfl]
        have c1 : ∃ mi' fh' oh', (∀ k, k < 4 → fh' k = woI (prS no (nI a) (nI b) n P T (k / 2) (k % 2)) (nI a) T) ∧ (∀ k, k < 4 → oh' k = woI (prS no (nI a) (nI b) n P T (k / 2) (k % 2)) (nI b) T) ∧ fuel (fun _ _ _ _ => none) (B_X3_two_57 (nI a) (nI b) (nI n) no rf) FU 0 mi fh oh = fuel (fun _ => none) (B_X3_two_81 no mi' rf fh' oh') FU 0 := by
          refine fuelP (fun _ _ _ _ => none) (B_X3_two_57 (nI a) (nI b) (nI n) no rf) (fun m f => ∀ (i : Nat) (mi : SV) (fh oh : Nat → Int32), i ≤ 4 → 4 - i < m → (∀ k, k < i → fh k = woI (prS no (nI a) (nI b) n P T (k / 2) (k % 2)) (nI a) T) → (∀ k, k < i → oh k = woI (prS no (nI a) (nI b) n P T (k / 2) (k % 2)) (nI b) T) → ∃ mi' fh' oh', (∀ k, k < 4 → fh' k = woI (prS no (nI a) (nI b) n P T (k / 2) (k % 2)) (nI a) T) ∧ (∀ k, k < 4 → oh' k = woI (prS no (nI a) (nI b) n P T (k / 2) (k % 2)) (nI b) T) ∧ f (nI i) mi fh oh = fuel (fun _ => none) (B_X3_two_81 no mi' rf fh' oh') FU 0) (fun i _ _ _ _ h => absurd h (Nat.not_lt_zero _)) (fun m f hf i mi fh oh hi hm g1 g2 => ?_) FU 0 mi fh oh (Nat.zero_le _) (by rw [FU_eq]; omega) (fun k h => absurd h (Nat.not_lt_zero _)) (fun k h => absurd h (Nat.not_lt_zero _))
          unfold B_X3_two_57
          rw [show (4 : Int32) = nI 4 from rfl, if_le (by omega) (by omega)]
          by_cases hh : 4 ≤ i
          · rw [if_pos hh]; exact ⟨mi, fh, oh, fun k hk => g1 k (by omega), fun k hk => g2 k (by omega), rfl⟩
          · rw [if_neg hh, think_c w hd hd2 hn ha hb (by omega), b3s, ad1]
            refine hf (i + 1) _ _ _ (by omega) (by omega) (fun k hk => ?_) (fun k hk => ?_)
            · by_cases e : k = i
              · subst e; rw [up_s]
              · rw [up_n e]; exact g1 k (by omega)
            · by_cases e : k = i
              · subst e; rw [up_s]
              · rw [up_n e]; exact g2 k (by omega)
        obtain ⟨mi', fh', oh', g1, g2, e⟩ := c1
        rw [e]
        have key := fuelP2 (fun _ => none) (B_X3_two_81 no mi' rf fh' oh') (fun _ _ => none) (B_X4_two_48 (nI a) (nI b) (nI n) ss re) (fun m f g => ∀ (i : Nat) (mm : Nat → Int32), i ≤ 4 → 4 - i < m → ∃ o mm', f (nI i) = some (o, mi', rf, fh', oh') ∧ g (nI i) mm = some (o, mm', re)) (fun i mm _ h => absurd h (Nat.not_lt_zero _)) (fun m f g hf i mm hi hm => by
          unfold B_X3_two_81 B_X4_two_48
          rw [show (4 : Int32) = nI 4 from rfl, if_le (by omega) (by omega), if_le (by omega) (by omega)]
          by_cases hh : 4 ≤ i
          · rw [if_pos hh, if_pos hh]; exact ⟨_, _, rfl, rfl⟩
          · obtain ⟨x1, x2⟩ := pr_xor i (by omega)
            obtain ⟨y1, y2, y3, y4⟩ := pr_div i (by omega)
            have i2 : i / 2 < 2 := by omega
            have j2 : i % 2 < 2 := by omega
            obtain ⟨m1, e1⟩ := ownBy_m (i := 1 - i / 2) (j := i % 2) hr w hd hd2 hn ha hb (by omega) j2 (nI a) mm
            obtain ⟨m2, e2⟩ := ownBy_m (i := i / 2) (j := i % 2) hr w hd hd2 hn ha hb i2 j2 (nI a) m1
            obtain ⟨m3, e3⟩ := ownBy_m (i := i / 2) (j := 1 - i % 2) hr w hd hd2 hn ha hb i2 (by omega) (nI b) m2
            obtain ⟨m4, e4⟩ := ownBy_m (i := i / 2) (j := i % 2) hr w hd hd2 hn ha hb i2 j2 (nI b) m3
            obtain ⟨o2, mm2, s1, s2⟩ := hf (i + 1) m2 (by omega) (by omega)
            obtain ⟨o4, mm4, s3, s4⟩ := hf (i + 1) m4 (by omega) (by omega)
            rw [if_neg hh, if_neg hh, x1, x2, y2, y1, y3, y4, e1, b2s, e2, b2s, e3, b2s, e4, b2s, chk_nI (by omega) (by omega), chk_nI (by omega) (by omega), chk_nI (by omega) (by omega), chk_nI (by omega) (by omega), nI_clamp (by omega), nI_clamp (by omega), nI_clamp (by omega), g1 i (by omega), g1 _ (by omega), g2 i (by omega), g2 _ (by omega), ad1, show (2 * (1 - i / 2) + i % 2) / 2 = 1 - i / 2 by omega, show (2 * (1 - i / 2) + i % 2) % 2 = i % 2 by omega, show (2 * (i / 2) + (1 - i % 2)) / 2 = i / 2 by omega, show (2 * (i / 2) + (1 - i % 2)) % 2 = 1 - i % 2 by omega]
            by_cases c1 : woI (prS no (nI a) (nI b) n P T (i / 2) (i % 2)) (nI a) T < woI (prS no (nI a) (nI b) n P T (1 - i / 2) (i % 2)) (nI a) T
            · rw [if_pos c1, if_pos c1]; exact ⟨o2, mm2, s1, s2⟩
            · rw [if_neg c1, if_neg c1]
              by_cases c2 : woI (prS no (nI a) (nI b) n P T (i / 2) (i % 2)) (nI b) T < woI (prS no (nI a) (nI b) n P T (i / 2) (1 - i % 2)) (nI b) T
              · rw [if_pos c2, if_pos c2]; exact ⟨o4, mm4, s3, s4⟩
              · rw [if_neg c2, if_neg c2]; exact ⟨_, _, rfl, rfl⟩) FU
        obtain ⟨o, mm', e1, e2⟩ := key 0 mm (by omega) (by rw [FU_eq]; omega)
        exact ⟨_, _, _, _, _, _, _, e1, e2, q⟩
      · rw [if_pos h1, if_neg (show ¬ z ≤ 99 from h2), if_neg (show ¬ (-6 : Int32) = 0 by decide), if_neg (show ¬ (-6 : Int32) = 0 by decide)]
        exact refus (-6) (by decide)
      · rw [if_neg h1, if_neg (show ¬ (-4 : Int32) = 0 by decide), if_neg (show ¬ (-4 : Int32) = 0 by decide)]
        exact refus (-4) (by decide)
    · rw [if_neg hy, if_neg hy]; exact refus (-1) (by decide)
  · rw [if_neg hx, if_neg hx]; exact refus (-1) (by decide)
