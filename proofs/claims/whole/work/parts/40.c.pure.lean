/-! ### wear -/
theorem WF.uWe {v : SV} {P T : Nat} (w : WF v P T) (t a : Nat) (ha : a ≤ 9) : WF (sUWe v (upd (sWe v) t (nI a))) P T := by
  refine ⟨w.1, w.2.1, w.2.2.1, w.2.2.2.1, fun u hu => ?_⟩
  obtain ⟨h1, h2, h3, h4⟩ := w.2.2.2.2 u hu
  refine ⟨h1, h2, ?_, h4⟩
  show ∃ b : Nat, b ≤ 9 ∧ upd (sWe v) t (nI a) u = nI b
  by_cases e : u = t
  · subst e; exact ⟨a, ha, up_s⟩
  · rw [up_n e]; exact h3
theorem WF.uBr {v : SV} {P T : Nat} (w : WF v P T) (t : Nat) {b : Int32} (hb : BR P b) : WF (sUBr v (upd (sBr v) t b)) P T := by
  refine ⟨w.1, w.2.1, w.2.2.1, w.2.2.2.1, fun u hu => ?_⟩
  obtain ⟨h1, h2, h3, h4⟩ := w.2.2.2.2 u hu
  refine ⟨h1, ?_, h3, h4⟩
  show BR P (upd (sBr v) t b u)
  by_cases e : u = t
  · subst e; rw [up_s]; exact hb
  · rw [up_n e]; exact h2
def wr1 (x : Nat) (v : SV) (t : Nat) : SV :=
  if isW v t then
    (if sWe v t + nI (x * mrN (sKi v t) (sFi v t).toNatClampNeg (sDa v).toNatClampNeg) ≤ 9 then sUWe v (upd (sWe v) t (sWe v t + nI (x * mrN (sKi v t) (sFi v t).toNatClampNeg (sDa v).toNatClampNeg)))
     else sUBr (sUWe v (upd (sWe v) t 9)) (upd (sBr v) t (-8)))
  else v
def wrF (x : Nat) : Nat → Nat → SV → SV
  | 0, _, v => v
  | k + 1, i, v => wrF x k (i + 1) (wr1 x v i)
theorem wear_nI {v : SV} {P T : Nat} (w : WF v P T) {t x d : Nat} (ht : t < T) (hx : x ≤ 2) (hd : sDa v = nI d) (hd2 : d < 2 ^ 31) : ∃ f b : Nat, f ≤ 9 ∧ sFi v t = nI f ∧ b ≤ 15 ∧ sWe v t + nI (x * mrN (sKi v t) (sFi v t).toNatClampNeg (sDa v).toNatClampNeg) = nI b ∧ mrN (sKi v t) (sFi v t).toNatClampNeg (sDa v).toNatClampNeg = mrN (sKi v t) f d := by
  obtain ⟨-, -, ⟨a, ha, ea⟩, ⟨f, hf, ef⟩⟩ := w.2.2.2.2 t ht
  have e : mrN (sKi v t) (sFi v t).toNatClampNeg (sDa v).toNatClampNeg = mrN (sKi v t) f d := by rw [ef, hd, nI_clamp (by omega), nI_clamp hd2]
  have hm : mrN (sKi v t) f d ≤ 3 := mrN_le hf
  have h6 : x * mrN (sKi v t) f d ≤ 6 := Nat.le_trans (Nat.mul_le_mul hx hm) (by decide)
  exact ⟨f, a + x * mrN (sKi v t) f d, hf, ef, by omega, by rw [e, ea, nI_add], e⟩
theorem le9 {α : Type} {b : Nat} (hb : b ≤ 15) {inst : Decidable (nI b ≤ 9)} (X Y : α) : (@ite α (nI b ≤ 9) inst X Y) = if b ≤ 9 then X else Y := if_le (a := b) (b := 9) (by omega) (by omega) X Y
theorem wr1_wf {v : SV} {P T : Nat} (w : WF v P T) {t x d : Nat} (ht : t < T) (hx : x ≤ 2) (hd : sDa v = nI d) (hd2 : d < 2 ^ 31) : WF (wr1 x v t) P T := by
  obtain ⟨f, b, hf, ef, hb, eb, -⟩ := wear_nI w ht hx hd hd2
  unfold wr1
  by_cases h : isW v t
  · rw [if_pos h, eb, le9 hb]
    by_cases h9 : b ≤ 9
    · rw [if_pos h9]; exact w.uWe t b h9
    · rw [if_neg h9]; exact (w.uWe t 9 (by omega)).uBr t (Or.inr (Or.inl rfl))
  · rw [if_neg h]; exact w
theorem wr1_da (x : Nat) (v : SV) (t : Nat) : sDa (wr1 x v t) = sDa v := by
  unfold wr1
  split
  · split <;> rfl
  · rfl
theorem wrF_wf {P T x d : Nat} (hx : x ≤ 2) (hd2 : d < 2 ^ 31) : ∀ (k i : Nat) (v : SV), WF v P T → i + k ≤ T → sDa v = nI d → WF (wrF x k i v) P T ∧ sDa (wrF x k i v) = nI d
  | 0, _, v, w, _, hd => ⟨w, hd⟩
  | k + 1, i, v, w, hi, hd => wrF_wf hx hd2 k (i + 1) (wr1 x v i) (wr1_wf w (by omega) hx hd hd2) (by omega) (by rw [wr1_da]; exact hd)
theorem wearMore_c (v : SV) {t : Nat} (ht : t < 9) (y : Int32) : M_X2_wearMore v (nI t) y = some (if sWe v t + y ≤ 9 then sUWe v (upd (sWe v) t (sWe v t + y)) else sUBr (sUWe v (upd (sWe v) t 9)) (upd (sBr v) t (-8))) := by
  unfold M_X2_wearMore
  simp only [chk_nI ht (show (9 : Nat) < 2 ^ 31 by decide), nI_clamp (show t < 2 ^ 31 by omega), up_s, up_u]
  split <;> rfl
theorem wearAll_c {P T x d : Nat} (hx : x ≤ 2) (hd2 : d < 2 ^ 31) {v : SV} (w : WF v P T) (hd : sDa v = nI d) : M_X2_wearAll v (nI x) = some (wrF x T 0 v) := by
  have hT := w.2.1
  unfold M_X2_wearAll
  refine fuelP (fun _ _ => none) (B_X2_wearAll_2 (nI x)) (fun k f => ∀ (i : Nat) (v : SV), WF v P T → sDa v = nI d → i ≤ T → T - i < k → f (nI i) v = some (wrF x (T - i) i v)) (fun i _ _ _ _ h => absurd h (Nat.not_lt_zero _)) (fun k f hf i v w hd hi hk => ?_) FU 0 v w hd (Nat.zero_le _) (by rw [FU_eq]; omega)
  unfold B_X2_wearAll_2
  rw [w.2.2.2.1, if_le (by omega) (by omega)]
  by_cases h : T ≤ i
  · rw [if_pos h, show T - i = 0 by omega]; rfl
  · have ht : i < T := by omega
    obtain ⟨f', b, hf', ef, hb, eb, em⟩ := wear_nI w ht hx hd hd2
    rw [if_neg h, isWhole_c v (by omega), b1s, show T - i = (T - (i + 1)) + 1 by omega]
    show _ = some (wrF x (T - (i + 1)) (i + 1) (wr1 x v i))
    rw [← hf (i + 1) (wr1 x v i) (wr1_wf w ht hx hd hd2) (by rw [wr1_da]; exact hd) (by omega) (by omega), ad1]
    unfold wr1
    by_cases hw : isW v i
    · rw [if_pos hw, if_pos hw, if_neg (by decide), hd, more_c (by omega) hf' ef hd2, b1s, pk_mul, wearMore_c v (by omega), b1s, ← hd, em]
    · rw [if_neg hw, if_neg hw, if_pos rfl]
theorem mn9 {b : Nat} (hb : b ≤ 15) : mn 9 (nI b) = if b ≤ 9 then nI b else 9 := by
  unfold mn
  rw [show (9 : Int32) = nI 9 from rfl, if_lt (by omega) (by omega)]
  by_cases h : b < 9
  · rw [if_pos h, if_pos (by omega)]
  · rw [if_neg h]
    by_cases h2 : b ≤ 9
    · rw [if_pos h2, show b = 9 by omega]
    · rw [if_neg h2]
theorem wear_m1 {P T x d : Nat} (hx : x ≤ 2) (hd2 : d < 2 ^ 31) {id : Int32} {v : SV} {r : Nat → Int32} (h : RR v id r) (w : WF v P T) (hd : sDa v = nI d) {i : Nat} (ht : i < T) (f : Int32 → (Nat → Int32) → Option (Nat → Int32)) : ∃ r1, RR (wr1 x v i) id r1 ∧ B_X4_day_9 (nI x) f (nI i) r = f (nI (i + 1)) r1 := by
  have hT := w.2.1
  have ht9 : i < 9 := by omega
  obtain ⟨f', b, hf', ef, hb, eb, em⟩ := wear_nI w ht hx hd hd2
  unfold B_X4_day_9
  rw [h.th, w.2.2.2.1, if_le (by omega) (by omega), if_neg (show ¬ T ≤ i by omega), isWhole_m r ht9, b1s, h.br ht9]
  by_cases hw : sBr v i = -9
  · rw [if_pos hw, if_neg (show ¬ (1 : Int32) = 0 by decide)]
    simp only [ofT_nI, b1s, ad0, ad1, ad3, ad4]
    rw [chk_nI (by omega) (by omega), chk_nI (by omega) (by omega), chk_nI (by omega) (by omega), nI_clamp (show 16 + 5 * i < 2 ^ 31 by omega), nI_clamp (show 16 + 5 * i + 1 < 2 ^ 31 by omega), h.ki ht9, h.fi ht9, h.da, ef, hd, more_m hf' hd2, b1s, least_m, b1s, chk_nI (by omega) (by omega), nI_clamp (show 16 + 5 * i + 3 < 2 ^ 31 by omega), h.we ht9, pk_mul, ← em, eb, mn9 hb, show (10 : Int32) = nI 10 from rfl, if_lt (by omega) (by omega), chk_nI (by omega) (by omega), nI_clamp (show 16 + 5 * i + 4 < 2 ^ 31 by omega)]
    by_cases h9 : b ≤ 9
    · rw [if_pos h9, if_pos (show b < 10 by omega)]
      refine ⟨_, ?_, rfl⟩
      have e : wr1 x v i = sUWe v (upd (sWe v) i (nI b)) := by
        unfold wr1
        rw [if_pos hw, eb, le9 hb, if_pos h9]
      rw [e]
      exact h.uWe i ht9 (nI b)
    · rw [if_neg h9, if_neg (show ¬ b < 10 by omega)]
      refine ⟨_, ?_, rfl⟩
      have e : wr1 x v i = sUBr (sUWe v (upd (sWe v) i 9)) (upd (sBr v) i (-8)) := by
        unfold wr1
        rw [if_pos hw, eb, le9 hb, if_neg h9]
      rw [e]
      exact (h.uWe i ht9 9).uBr i ht9 (-8)
  · rw [if_neg hw, if_pos rfl, ad1]
    refine ⟨r, ?_, rfl⟩
    have e : wr1 x v i = v := by
      unfold wr1
      rw [if_neg hw]
    rw [e]
    exact h
theorem wear_m {P T x d : Nat} (hx : x ≤ 2) (hd2 : d < 2 ^ 31) {id : Int32} {v : SV} {r : Nat → Int32} (h : RR v id r) (w : WF v P T) (hd : sDa v = nI d) : ∃ r', RR (wrF x T 0 v) id r' ∧ fuel (fun _ _ => none) (B_X4_day_9 (nI x)) FU (nI 0) r = fuel (fun _ _ => none) B_X4_day_99 FU 0 r' := by
  have hT := w.2.1
  refine fuelP (fun _ _ => none) (B_X4_day_9 (nI x)) (fun k f => ∀ (i : Nat) (v : SV) (r : Nat → Int32), RR v id r → WF v P T → sDa v = nI d → i ≤ T → T - i < k → ∃ r', RR (wrF x (T - i) i v) id r' ∧ f (nI i) r = fuel (fun _ _ => none) B_X4_day_99 FU 0 r') (fun i _ _ _ _ _ _ h => absurd h (Nat.not_lt_zero _)) (fun k f hf i v r h w hd hi hk => ?_) FU 0 v r h w hd (Nat.zero_le _) (by rw [FU_eq]; omega)
  by_cases hh : T ≤ i
  · unfold B_X4_day_9
    rw [h.th, w.2.2.2.1, if_le (by omega) (by omega), if_pos hh, show T - i = 0 by omega]
    exact ⟨r, h, rfl⟩
  · have ht : i < T := by omega
    obtain ⟨r1, q1, q2⟩ := wear_m1 hx hd2 h w hd ht f
    obtain ⟨r2, q3, q4⟩ := hf (i + 1) (wr1 x v i) r1 q1 (wr1_wf w ht hx hd hd2) (by rw [wr1_da]; exact hd) (by omega) (by omega)
    refine ⟨r2, ?_, q2.trans q4⟩
    rw [show T - i = (T - (i + 1)) + 1 by omega]
    exact q3
/-! ### mending -/
def mdS (v : SV) (p t : Nat) : SV := sUBr (sUWe (sUMe v (upd (sMe v) p (mn 999 (sMe v p + 1)))) (upd (sWe v) t 0)) (upd (sBr v) t (-9))
def lmT (v : SV) (p : Nat) : Nat → Nat → Option Nat
  | 0, _ => none
  | k + 1, i => if mmS v p i then some i else lmT v p k (i + 1)
theorem lmT_lt {v : SV} {p : Nat} : ∀ {k i t : Nat}, lmT v p k i = some t → i ≤ t ∧ t < i + k ∧ mmS v p t
  | 0, _, _, h => by cases h
  | k + 1, i, t, h => by
    unfold lmT at h
    by_cases hm : mmS v p i
    · rw [if_pos hm] at h
      cases h
      exact ⟨Nat.le_refl _, by omega, hm⟩
    · rw [if_neg hm] at h
      obtain ⟨a, b, c⟩ := lmT_lt h
      exact ⟨by omega, by omega, c⟩
theorem lmT_none {v : SV} {p : Nat} : ∀ {k i : Nat}, (∀ t, i ≤ t → t < i + k → sBr v t < 0) → lmT v p k i = none
  | 0, _, _ => rfl
  | k + 1, i, h => by
    unfold lmT
    rw [if_neg (fun q => q.1 (h i (Nat.le_refl _) (by omega)))]
    exact lmT_none (fun t h1 h2 => h t (by omega) (by omega))
def mdP (v : SV) (p T : Nat) : SV := match lmT v p T 0 with
  | none => v
  | some t => mdS v p t
theorem mdS_wf {v : SV} {P T : Nat} (w : WF v P T) (p t : Nat) : WF (mdS v p t) P T := by
  have w1 : WF (sUMe v (upd (sMe v) p (mn 999 (sMe v p + 1)))) P T := w
  exact (w1.uWe t 0 (by omega)).uBr t (Or.inl rfl)
theorem mdP_wf {v : SV} {P T : Nat} (w : WF v P T) (p : Nat) : WF (mdP v p T) P T := by
  unfold mdP
  split
  · exact w
  · exact mdS_wf w _ _
theorem mdP_da (v : SV) (p T : Nat) : sDa (mdP v p T) = sDa v := by
  unfold mdP
  split <;> rfl
theorem mend_c (v : SV) {p t : Nat} (hp : p < 6) (ht : t < 9) : M_X2_mend v (nI p) (nI t) = some (mdS v p t) := by
  unfold M_X2_mend mdS mn
  simp only [chk_nI ht (show (9 : Nat) < 2 ^ 31 by decide), chk_nI hp (show (6 : Nat) < 2 ^ 31 by decide), nI_clamp (show t < 2 ^ 31 by omega), nI_clamp (show p < 2 ^ 31 by omega)]
theorem mendLeast_c {v : SV} {P T : Nat} (w : WF v P T) {p : Nat} (hp : p < P) : M_X2_mendLeast v (nI p) = some (mdP v p T) := by
  have hP := w.1
  have hT := w.2.1
  unfold M_X2_mendLeast mdP
  refine fuelP (fun _ => none) (B_X2_mendLeast_2 (nI p) v) (fun k f => ∀ i, i ≤ T → T - i < k → f (nI i) = some (match lmT v p (T - i) i with | none => v | some t => mdS v p t)) (fun i _ h => absurd h (Nat.not_lt_zero _)) (fun k f hf i hi hk => ?_) FU 0 (Nat.zero_le _) (by rw [FU_eq]; omega)
  unfold B_X2_mendLeast_2
  rw [w.2.2.2.1, if_le (by omega) (by omega)]
  by_cases h : T ≤ i
  · rw [if_pos h, show T - i = 0 by omega]; rfl
  · rw [if_neg h, may_c w hp (by omega), b1s, show T - i = (T - (i + 1)) + 1 by omega]
    unfold lmT
    by_cases hm : mmS v p i
    · rw [if_pos hm, if_pos hm, if_neg (by decide), mend_c v (by omega) (by omega), b1s]
    · rw [if_neg hm, if_neg hm, if_pos rfl, ad1]
      exact hf (i + 1) (by omega) (by omega)
theorem leastMended_m {v : SV} {id : Int32} {r : Nat → Int32} (h : RR v id r) {P T : Nat} (w : WF v P T) {p : Nat} (hp : p < P) : M_X4_leastMended r (nI p) = some (match lmT v p T 0 with | none => -9 | some t => nI t) := by
  have hP := w.1
  have hT := w.2.1
  unfold M_X4_leastMended
  refine fuelP (fun _ => none) (B_X4_leastMended_2 (nI p) r) (fun k f => ∀ i, i ≤ T → T - i < k → f (nI i) = some (match lmT v p (T - i) i with | none => -9 | some t => nI t)) (fun i _ h => absurd h (Nat.not_lt_zero _)) (fun k f hf i hi hk => ?_) FU 0 (Nat.zero_le _) (by rw [FU_eq]; omega)
  unfold B_X4_leastMended_2
  rw [h.th, w.2.2.2.1, if_le (by omega) (by omega)]
  by_cases hh : T ≤ i
  · rw [if_pos hh, show T - i = 0 by omega]; rfl
  · rw [if_neg hh, may_m h w hp (by omega), b1s, show T - i = (T - (i + 1)) + 1 by omega]
    unfold lmT
    by_cases hm : mmS v p i
    · rw [if_pos hm, if_pos hm, if_neg (by decide)]
    · rw [if_neg hm, if_neg hm, if_pos rfl, ad1]
      exact hf (i + 1) (by omega) (by omega)
theorem mendsIn_m {v : SV} {id : Int32} {r : Nat → Int32} (h : RR v id r) {p t : Nat} (hp : p < 6) (ht : t < 9) : ∃ r', RR (mdS v p t) id r' ∧ M_X4_mendsIn r (nI p) (nI t) = some r' := by
  have h1 := h.uBr t ht (-9)
  have h2 := h1.uWe t ht 0
  have h3 := h2.uMe p hp (mn 999 (sMe v p + 1))
  refine ⟨_, h3, ?_⟩
  unfold M_X4_mendsIn
  simp only [ofT_nI, ofP_nI, b1s, ad1, ad3, ad4]
  rw [chk_nI (by omega) (by omega), chk_nI (by omega) (by omega), chk_nI (by omega) (by omega), nI_clamp (by omega), nI_clamp (by omega), nI_clamp (by omega), least_m, b1s, chk_nI (by omega) (by omega), h2.me hp]
  rfl
def ps1 (idle : Int32) (T : Nat) (v : SV) (p : Nat) : SV := if nI p = idle then v else mdP v p T
def psF (idle : Int32) (T : Nat) : Nat → Nat → SV → SV
  | 0, _, v => v
  | k + 1, i, v => psF idle T k (i + 1) (ps1 idle T v i)
theorem ps1_wf {v : SV} {P T : Nat} (w : WF v P T) (idle : Int32) (p : Nat) : WF (ps1 idle T v p) P T := by
  unfold ps1
  split
  · exact w
  · exact mdP_wf w p
theorem ps1_da (idle : Int32) (T : Nat) (v : SV) (p : Nat) : sDa (ps1 idle T v p) = sDa v := by
  unfold ps1
  split
  · rfl
  · exact mdP_da v p T
theorem psF_wf {P T : Nat} (idle : Int32) : ∀ (k i : Nat) (v : SV), WF v P T → WF (psF idle T k i v) P T ∧ sDa (psF idle T k i v) = sDa v
  | 0, _, _, w => ⟨w, rfl⟩
  | k + 1, i, v, w => by
    obtain ⟨a, b⟩ := psF_wf idle k (i + 1) (ps1 idle T v i) (ps1_wf w idle i)
    exact ⟨a, b.trans (ps1_da idle T v i)⟩
theorem psF_id {P T : Nat} (idle : Int32) {v : SV} (hn : ∀ t, t < T → sBr v t < 0) : ∀ (k i : Nat), psF idle T k i v = v
  | 0, _ => rfl
  | k + 1, i => by
    have e : ps1 idle T v i = v := by
      unfold ps1 mdP
      split
      · rfl
      · rw [lmT_none (fun t _ h2 => hn t (by omega))]
    show psF idle T k (i + 1) (ps1 idle T v i) = v
    rw [e]
    exact psF_id (P := P) idle hn k (i + 1)
theorem canBe_c {v : SV} {P T : Nat} (w : WF v P T) : ∃ b : Int32, M_X2_canBeMended v = some b ∧ (b = 0 → ∀ t, t < T → sBr v t < 0) := by
  have hT := w.2.1
  unfold M_X2_canBeMended
  obtain ⟨b, h1, h2⟩ := fuelP (fun _ => none) (B_X2_canBeMended_2 v) (fun k f => ∀ i, i ≤ T → T - i < k → ∃ b : Int32, f (nI i) = some b ∧ (b = 0 → ∀ t, i ≤ t → t < T → sBr v t < 0)) (fun i _ h => absurd h (Nat.not_lt_zero _)) (fun k f hf i hi hk => by
    unfold B_X2_canBeMended_2
    rw [w.2.2.2.1, if_le (by omega) (by omega)]
    by_cases h : T ≤ i
    · rw [if_pos h]; exact ⟨0, rfl, fun _ t h1 h2 => absurd h2 (by omega)⟩
    · rw [if_neg h, chk_nI (by omega) (by omega), nI_clamp (by omega)]
      by_cases hb : sBr v i < 0
      · rw [if_pos hb, ad1]
        obtain ⟨b, h1, h2⟩ := hf (i + 1) (by omega) (by omega)
        refine ⟨b, h1, fun e t q1 q2 => ?_⟩
        by_cases ei : t = i
        · rw [ei]; exact hb
        · exact h2 e t (by omega) q2
      · rw [if_neg hb]; exact ⟨1, rfl, fun e => absurd e (by decide)⟩) FU 0 (Nat.zero_le _) (by rw [FU_eq]; omega)
  exact ⟨b, h1, fun e t ht => h2 e t (Nat.zero_le _) ht⟩
theorem people_c {P T : Nat} (x1 x2 x4 idle : Int32) (K : SV → Option SV) {v : SV} (w : WF v P T) : fuel (fun _ _ => none) (B_X2_pass_27 x1 x2 idle x4 K) FU 0 v = K (psF idle T P 0 v) := by
  have hP := w.1
  refine fuelP (fun _ _ => none) (B_X2_pass_27 x1 x2 idle x4 K) (fun k f => ∀ (i : Nat) (v : SV), WF v P T → i ≤ P → P - i < k → f (nI i) v = K (psF idle T (P - i) i v)) (fun i _ _ _ h => absurd h (Nat.not_lt_zero _)) (fun k f hf i v w hi hk => ?_) FU 0 v w (Nat.zero_le _) (by rw [FU_eq]; omega)
  unfold B_X2_pass_27
  rw [w.2.2.1, if_le (by omega) (by omega)]
  by_cases h : P ≤ i
  · rw [if_pos h, show P - i = 0 by omega]; rfl
  · obtain ⟨b, hb1, hb2⟩ := canBe_c w
    rw [if_neg h, hb1, b1s]
    by_cases h0 : b = 0
    · rw [if_pos h0, psF_id (P := P) idle (hb2 h0)]
    · rw [if_neg h0, show P - i = (P - (i + 1)) + 1 by omega]
      show _ = K (psF idle T (P - (i + 1)) (i + 1) (ps1 idle T v i))
      rw [← hf (i + 1) (ps1 idle T v i) (ps1_wf w idle i) (by omega) (by omega), ad1]
      unfold ps1
      by_cases hx : nI i = idle
      · rw [if_pos hx, if_pos hx]
      · rw [if_neg hx, if_neg hx, mendLeast_c w (by omega), b1s]
theorem people_m {P T : Nat} {id : Int32} {v : SV} {r : Nat → Int32} (h : RR v id r) (w : WF v P T) : ∃ r', RR (psF id T P 0 v) id r' ∧ fuel (fun _ _ => none) B_X4_day_99 FU 0 r = some r' := by
  have hP := w.1
  refine fuelP (fun _ _ => none) B_X4_day_99 (fun k f => ∀ (i : Nat) (v : SV) (r : Nat → Int32), RR v id r → WF v P T → i ≤ P → P - i < k → ∃ r', RR (psF id T (P - i) i v) id r' ∧ f (nI i) r = some r') (fun i _ _ _ _ _ h => absurd h (Nat.not_lt_zero _)) (fun k f hf i v r h w hi hk => ?_) FU 0 v r h w (Nat.zero_le _) (by rw [FU_eq]; omega)
  have hT := w.2.1
  unfold B_X4_day_99
  rw [h.pe, w.2.2.1, if_le (by omega) (by omega)]
  by_cases hh : P ≤ i
  · rw [if_pos hh, show P - i = 0 by omega]; exact ⟨r, h, rfl⟩
  · rw [if_neg hh, show P - i = (P - (i + 1)) + 1 by omega, h.id]
    show ∃ r', RR (psF id T (P - (i + 1)) (i + 1) (ps1 id T v i)) id r' ∧ _
    have w' := ps1_wf w id i
    by_cases hx : nI i = id
    · rw [if_pos hx, ad1]
      have e : ps1 id T v i = v := by unfold ps1; rw [if_pos hx]
      rw [e]
      exact hf (i + 1) v r h w (by omega) (by omega)
    · rw [if_neg hx, leastMended_m h w (by omega), b1s]
      have e : ps1 id T v i = mdP v i T := by unfold ps1; rw [if_neg hx]
      rw [e] at w' ⊢
      unfold mdP at w' ⊢
      cases hl : lmT v i T 0 with
      | none =>
        rw [hl] at w'
        dsimp only
        rw [if_pos (by decide), ad1]
        exact hf (i + 1) v r h w (by omega) (by omega)
      | some t =>
        rw [hl] at w'
        obtain ⟨-, ht, -⟩ := lmT_lt hl
        obtain ⟨r1, q1, q2⟩ := mendsIn_m h (p := i) (t := t) (by omega) (by omega)
        dsimp only
        rw [if_neg (nI_pos (by omega)), q2, b1s, ad1]
        exact hf (i + 1) _ r1 q1 w' (by omega) (by omega)
/-- a day, and days -/
def dyS (P T x : Nat) (idle : Int32) (v : SV) : SV := psF idle T P 0 (wrF x T 0 (sUDa v (sDa v + 1)))
def itD (P T x : Nat) (idle : Int32) : Nat → SV → SV
  | 0, v => v
  | n + 1, v => itD P T x idle n (dyS P T x idle v)
theorem dyS_wf {P T x d : Nat} (hx : x ≤ 2) (idle : Int32) {v : SV} (w : WF v P T) (hd : sDa v = nI d) (hd2 : d < 2 ^ 30) : WF (dyS P T x idle v) P T ∧ sDa (dyS P T x idle v) = nI (d + 1) := by
  have w1 : WF (sUDa v (sDa v + 1)) P T := w
  have e1 : sDa (sUDa v (sDa v + 1)) = nI (d + 1) := by
    show sDa v + 1 = nI (d + 1)
    rw [hd, nI_1]
  obtain ⟨w2, e2⟩ := wrF_wf (P := P) (T := T) (d := d + 1) hx (by omega) T 0 _ w1 (by omega) e1
  obtain ⟨w3, e3⟩ := psF_wf (P := P) idle P 0 _ w2
  exact ⟨w3, e3.trans e2⟩
theorem day_m {P T x d : Nat} (hx : x ≤ 2) {id : Int32} {v : SV} {r : Nat → Int32} (h : RR v id r) (w : WF v P T) (hd : sDa v = nI d) (hd2 : d < 2 ^ 30) : ∃ r', RR (dyS P T x id v) id r' ∧ M_X4_day r (nI x) = some r' := by
  have w1 : WF (sUDa v (sDa v + 1)) P T := w
  have e1 : sDa (sUDa v (sDa v + 1)) = nI (d + 1) := by
    show sDa v + 1 = nI (d + 1)
    rw [hd, nI_1]
  have h1 : RR (sUDa v (sDa v + 1)) id (upd r 2 (r 2 + 1)) := by rw [h.da]; exact h.uDa (sDa v + 1)
  obtain ⟨r1, q1, q2⟩ := wear_m (P := P) (T := T) (d := d + 1) hx (by omega) h1 w1 e1
  obtain ⟨w2, e2⟩ := wrF_wf (P := P) (T := T) (d := d + 1) hx (by omega) T 0 _ w1 (by omega) e1
  obtain ⟨r2, q3, q4⟩ := people_m q1 w2
  refine ⟨r2, q3, ?_⟩
  unfold M_X4_day
  rw [← q4, ← q2]
  rfl
theorem pass_c {P T x : Nat} (hx : x ≤ 2) (idle : Int32) {N d : Nat} (hN : N ≤ 1000) {v : SV} (w : WF v P T) (hd : sDa v = nI d) (hd2 : d ≤ 10000) : M_X2_pass v (nI N) (nI x) idle = some (itD P T x idle N v) := by
  unfold M_X2_pass
  refine fuelP (fun _ _ => none) (B_X2_pass_3 (nI N) (nI x) idle) (fun k f => ∀ (i : Nat) (v : SV) (d : Nat), WF v P T → sDa v = nI d → d ≤ 10000 + i → i ≤ N → N - i < k → f (nI i) v = some (itD P T x idle (N - i) v)) (fun i _ _ _ _ _ _ h => absurd h (Nat.not_lt_zero _)) (fun k f hf i v d w hd hd2 hi hk => ?_) FU 0 v d w hd (by omega) (Nat.zero_le _) (by rw [FU_eq]; omega)
  unfold B_X2_pass_3
  rw [if_le (by omega) (by omega)]
  by_cases h : N ≤ i
  · rw [if_pos h, show N - i = 0 by omega]; rfl
  · have w1 : WF (sUDa v (sDa v + 1)) P T := w
    have e1 : sDa (sUDa v (sDa v + 1)) = nI (d + 1) := by
      show sDa v + 1 = nI (d + 1)
      rw [hd, nI_1]
    obtain ⟨w2, e2⟩ := wrF_wf (P := P) (T := T) (d := d + 1) hx (by omega) T 0 _ w1 (by omega) e1
    obtain ⟨w3, e3⟩ := dyS_wf (P := P) (T := T) hx idle w hd (by omega)
    rw [if_neg h, wearAll_c (d := d + 1) hx (by omega) w1 e1, b1s, people_c _ _ _ idle _ w2, ad1, show N - i = (N - (i + 1)) + 1 by omega]
    exact hf (i + 1) _ (d + 1) w3 e3 (by omega) (by omega) (by omega)
theorem itD_wf {P T x : Nat} (hx : x ≤ 2) (idle : Int32) : ∀ (n : Nat) {v : SV} {d : Nat}, WF v P T → sDa v = nI d → d + n < 2 ^ 30 → WF (itD P T x idle n v) P T ∧ sDa (itD P T x idle n v) = nI (d + n)
  | 0, v, d, w, hd, _ => ⟨w, hd⟩
  | n + 1, v, d, w, hd, h => by
    obtain ⟨w3, e3⟩ := dyS_wf (P := P) (T := T) hx idle w hd (by omega)
    obtain ⟨a, b⟩ := itD_wf hx idle n w3 e3 (by omega)
    exact ⟨a, by rw [show d + (n + 1) = d + 1 + n by omega]; exact b⟩
theorem daysOn_m {P T : Nat} {id : Int32} {N d : Nat} (hN : N ≤ 1000) {v : SV} {r : Nat → Int32} (h : RR v id r) (w : WF v P T) (hd : sDa v = nI d) (hd2 : d ≤ 10000) : ∃ r', RR (itD P T 1 id N v) id r' ∧ M_X4_daysOn r (nI N) = some r' := by
  unfold M_X4_daysOn
  refine fuelP (fun _ _ => none) (B_X4_daysOn_2 (nI N)) (fun k f => ∀ (i : Nat) (v : SV) (r : Nat → Int32) (d : Nat), RR v id r → WF v P T → sDa v = nI d → d ≤ 10000 + i → i ≤ N → N - i < k → ∃ r', RR (itD P T 1 id (N - i) v) id r' ∧ f (nI i) r = some r') (fun i _ _ _ _ _ _ _ _ h => absurd h (Nat.not_lt_zero _)) (fun k f hf i v r d h w hd hd2 hi hk => ?_) FU 0 v r d h w hd (by omega) (Nat.zero_le _) (by rw [FU_eq]; omega)
  unfold B_X4_daysOn_2
  rw [if_le (by omega) (by omega)]
  by_cases hh : N ≤ i
  · rw [if_pos hh, show N - i = 0 by omega]; exact ⟨r, h, rfl⟩
  · obtain ⟨w3, e3⟩ := dyS_wf (P := P) (T := T) (x := 1) (by omega) id w hd (by omega)
    obtain ⟨r1, q1, q2⟩ := day_m (P := P) (T := T) (x := 1) (by omega) h w hd (by omega)
    rw [if_neg hh, show (1 : Int32) = nI 1 from rfl, q2, b1s, nI_add, show N - i = (N - (i + 1)) + 1 by omega]
    exact hf (i + 1) _ r1 (d + 1) q1 w3 e3 (by omega) (by omega) (by omega)
