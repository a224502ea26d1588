/-! ### the lane: what a statement does -/
theorem pn_c {v : SV} {P T x : Nat} (w : WF v P T) (hx : x ≤ 99) : M_X2_isPerson v (nI x) = some (if x < P then 1 else 0) := by
  have hP := w.1
  rw [isP_c, w.2.2.1]
  by_cases h : x < P
  · rw [if_pos h, if_pos (ix_nI h (by omega))]
  · rw [if_neg h, if_neg (fun q => h ((nI_ltI (by omega) (by omega)).mp q.2))]
theorem tn_c {v : SV} {P T x : Nat} (w : WF v P T) (hx : x ≤ 99) : M_X2_isThing v (nI x) = some (if x < T then 1 else 0) := by
  have hT := w.2.1
  rw [isT_c, w.2.2.2.1]
  by_cases h : x < T
  · rw [if_pos h, if_pos (ix_nI h (by omega))]
  · rw [if_neg h, if_neg (fun q => h ((nI_ltI (by omega) (by omega)).mp q.2))]
theorem pn_m {v : SV} {i : Int32} {r : Nat → Int32} {P T x : Nat} (hr : RR v i r) (w : WF v P T) (hx : x ≤ 99) : M_X4_isPerson r (nI x) = some (if x < P then 1 else 0) := by
  have hP := w.1
  rw [isP_m hr w, w.2.2.1]
  by_cases h : x < P
  · rw [if_pos h, if_pos (ix_nI h (by omega))]
  · rw [if_neg h, if_neg (fun q => h ((nI_ltI (by omega) (by omega)).mp q.2))]
theorem tn_m {v : SV} {i : Int32} {r : Nat → Int32} {P T x : Nat} (hr : RR v i r) (w : WF v P T) (hx : x ≤ 99) : M_X4_isThing r (nI x) = some (if x < T then 1 else 0) := by
  have hT := w.2.1
  rw [isT_m hr w, w.2.2.2.1]
  by_cases h : x < T
  · rw [if_pos h, if_pos (ix_nI h (by omega))]
  · rw [if_neg h, if_neg (fun q => h ((nI_ltI (by omega) (by omega)).mp q.2))]
theorem tellB_c {v : SV} {P T x : Nat} (w : WF v P T) (hx : x ≤ 99) (b th : Int32) : M_X0_tellBroken v (nI x) b th = if x < T ∧ sBr v x = b then some (1, sUBr v (upd (sBr v) x th)) else some (0, v) := by
  have hT := w.2.1
  unfold M_X0_tellBroken
  rw [tn_c w hx, chkc]
  by_cases h : x < T
  · rw [if_pos h, chk_nI (by omega) (by omega), chk_nI (by omega) (by omega), nI_clamp (by omega)]
    by_cases h2 : sBr v x = b
    · rw [if_pos h2, if_pos ⟨h, h2⟩]
    · rw [if_neg h2, if_neg (fun q => h2 q.2)]
  · rw [if_neg h, if_neg (fun q => h q.1)]
/-- one more -/
def adP (v : SV) (P : Nat) (x : Int32) : SV := sUPe (sUMe (sUSk v (upd (sSk v) P x)) (upd (sMe v) P 0)) (nI (P + 1))
theorem adP_wf {v : SV} {P T : Nat} (w : WF v P T) (h : P < 6) (x : Int32) : WF (adP v P x) (P + 1) T := by
  refine ⟨by omega, w.2.1, rfl, w.2.2.2.1, fun t ht => ?_⟩
  obtain ⟨⟨o, ho, eo⟩, hb, hw, hf⟩ := w.2.2.2.2 t ht
  refine ⟨⟨o, by omega, eo⟩, ?_, hw, hf⟩
  rcases hb with e | e | ⟨q, hq, e⟩
  · exact Or.inl e
  · exact Or.inr (Or.inl e)
  · exact Or.inr (Or.inr ⟨q, by omega, e⟩)
theorem addP_c {v : SV} {P T : Nat} (w : WF v P T) (x : Int32) : M_X2_addPerson v x = if P < 6 then some (1, adP v P x) else some (0, v) := by
  have hP := w.1
  unfold M_X2_addPerson
  rw [w.2.2.1, show (6 : Int32) = nI 6 from rfl, if_lt (by omega) (by omega)]
  by_cases h : P < 6
  · rw [if_pos h, if_pos h, chk_nI h (by omega), chk_nI h (by omega), nI_clamp (by omega), ad1]
    rfl
  · rw [if_neg h, if_neg h]
theorem addP_m {v : SV} {r : Nat → Int32} {P T : Nat} (hr : RR v (-9) r) (w : WF v P T) (x : Int32) : ∃ r', (P < 6 → RR (adP v P x) (-9) r') ∧ M_X4_addsPerson r x = if P < 6 then some (1, r') else some (0, r') := by
  have hP := w.1
  unfold M_X4_addsPerson
  rw [hr.pe, w.2.2.1, show (6 : Int32) = nI 6 from rfl, if_eq (by omega) (by omega)]
  by_cases h : P < 6
  · have h1 := (hr.uSk P h x).uMe P h 0
    have h2 := h1.uPe (nI (P + 1))
    have e0 : (upd r (4 + 2 * P) x) 0 = nI P := by rw [up_n (by omega), hr.pe, w.2.2.1]
    have e1 : (upd (upd r (4 + 2 * P) x) (4 + 2 * P + 1) 0) 0 = nI P := by rw [up_n (by omega), e0]
    refine ⟨_, fun _ => h2, ?_⟩
    rw [if_neg (show ¬ P = 6 by omega), if_pos h, ofP_nI, b1s, ad0, chk_nI (by omega) (by omega), nI_clamp (by omega), e0, ofP_nI, b1s, ad1, chk_nI (by omega) (by omega), nI_clamp (by omega), e1, ad1]
  · exact ⟨r, fun x => absurd x h, by rw [if_pos (show P = 6 by omega), if_neg h]⟩
def adT (v : SV) (T : Nat) (k f o : Int32) : SV := sUTh (sUBr (sUWe (sUOw (sUFi (sUKi v (upd (sKi v) T k)) (upd (sFi v) T f)) (upd (sOw v) T o)) (upd (sWe v) T 0)) (upd (sBr v) T (-9))) (nI (T + 1))
theorem adT_wf {v : SV} {P T f o : Nat} (w : WF v P T) (h : T < 9) (k : Int32) (hf : f ≤ 9) (ho : o < P) : WF (adT v T k (nI f) (nI o)) P (T + 1) := by
  refine ⟨w.1, by omega, w.2.2.1, rfl, fun t ht => ?_⟩
  show (∃ o' : Nat, o' < P ∧ upd (sOw v) T (nI o) t = nI o') ∧ BR P (upd (sBr v) T (-9) t) ∧ (∃ w' : Nat, w' ≤ 9 ∧ upd (sWe v) T 0 t = nI w') ∧ ∃ f' : Nat, f' ≤ 9 ∧ upd (sFi v) T (nI f) t = nI f'
  by_cases e : t = T
  · subst e
    rw [up_s, up_s, up_s, up_s]
    exact ⟨⟨o, ho, rfl⟩, Or.inl rfl, ⟨0, by omega, rfl⟩, ⟨f, hf, rfl⟩⟩
  · rw [up_n e, up_n e, up_n e, up_n e]
    exact w.2.2.2.2 t (by omega)
theorem addT_c {v : SV} {P T o : Nat} (w : WF v P T) (k f : Int32) (ho : o ≤ 99) : M_X2_addThing v k f (nI o) = if T < 9 ∧ o < P then some (1, adT v T k f (nI o)) else some (0, v) := by
  have hT := w.2.1
  unfold M_X2_addThing
  rw [w.2.2.2.1, show (9 : Int32) = nI 9 from rfl, if_le (by omega) (by omega), pn_c w ho, chkc]
  by_cases h : T < 9
  · rw [if_neg (show ¬ 9 ≤ T by omega)]
    by_cases h2 : o < P
    · rw [if_pos h2, if_pos ⟨h, h2⟩]
      simp only [chk_nI h (show (9 : Nat) < 2 ^ 31 by decide), nI_clamp (show T < 2 ^ 31 by omega), ad1]
      rfl
    · rw [if_neg h2, if_neg (fun q => h2 q.2)]
  · rw [if_pos (show 9 ≤ T by omega), if_neg (fun q => h q.1)]
theorem eq9 {α : Type} {a : Nat} (ha : a < 100) {inst : Decidable (nI a = 9)} (X Y : α) : (@ite α (nI a = 9) inst X Y) = if a = 9 then X else Y := if_eq (a := a) (b := 9) (by omega) (by omega) X Y
theorem addT_m {v : SV} {r : Nat → Int32} {P T o : Nat} (hr : RR v (-9) r) (w : WF v P T) (k f : Int32) (ho : o ≤ 99) : ∃ r', (T < 9 ∧ o < P → RR (adT v T k f (nI o)) (-9) r') ∧ M_X4_addsThing r k f (nI o) = if T < 9 ∧ o < P then some (1, r') else some (0, r') := by
  have hT := w.2.1
  unfold M_X4_addsThing
  rw [pn_m hr w ho, chkc, hr.th, w.2.2.2.1, eq9 (by omega)]
  by_cases h2 : o < P
  · rw [if_pos h2]
    by_cases h : T < 9
    · have h1 := ((((hr.uKi T h k).uFi T h f).uOw T h (nI o)).uWe T h 0).uBr T h (-9)
      have h3 := h1.uTh (nI (T + 1))
      have e1 : (upd (upd (upd (upd (upd r (16 + 5 * T) k) (16 + 5 * T + 1) f) (16 + 5 * T + 2) (nI o)) (16 + 5 * T + 3) 0) (16 + 5 * T + 4) (-9)) 1 = nI T := by
        rw [up_n (by omega), up_n (by omega), up_n (by omega), up_n (by omega), up_n (by omega), hr.th, w.2.2.2.1]
      refine ⟨_, fun _ => h3, ?_⟩
      rw [if_neg (show ¬ T = 9 by omega), if_pos ⟨h, h2⟩, ofT_nI, b1s]
      simp only [ad0, ad1, ad2, ad3, ad4, chk_nI (show 16 + 5 * T < 61 by omega) (show (61 : Nat) < 2 ^ 31 by decide), chk_nI (show 16 + 5 * T + 1 < 61 by omega) (show (61 : Nat) < 2 ^ 31 by decide), chk_nI (show 16 + 5 * T + 2 < 61 by omega) (show (61 : Nat) < 2 ^ 31 by decide), chk_nI (show 16 + 5 * T + 3 < 61 by omega) (show (61 : Nat) < 2 ^ 31 by decide), chk_nI (show 16 + 5 * T + 4 < 61 by omega) (show (61 : Nat) < 2 ^ 31 by decide), nI_clamp (show 16 + 5 * T < 2 ^ 31 by omega), nI_clamp (show 16 + 5 * T + 1 < 2 ^ 31 by omega), nI_clamp (show 16 + 5 * T + 2 < 2 ^ 31 by omega), nI_clamp (show 16 + 5 * T + 3 < 2 ^ 31 by omega), nI_clamp (show 16 + 5 * T + 4 < 2 ^ 31 by omega)]
      rw [e1, ad1]
    · exact ⟨r, fun x => absurd x.1 h, by rw [if_pos (show T = 9 by omega), if_neg (fun q => h q.1)]⟩
  · exact ⟨r, fun x => absurd x.2 h2, by rw [if_neg h2, if_neg (fun q => h2 q.2)]⟩
def OE (A : Option (Int32 × SV)) (B : Option (Int32 × (Nat → Int32))) : Prop := ∃ v' r', (A = some (1, v') ∧ B = some (1, r') ∧ ST v' r') ∨ (A = some (0, v') ∧ B = some (0, r'))
theorem zchc {γ : Type} {c : Prop} [Decidable c] (X : Option γ) : zch (if c then 1 else 0) X = X := by
  by_cases h : c
  · rw [if_pos h]; rfl
  · rw [if_neg h]; rfl
theorem one_eq {v : SV} {sg r nu : Nat → Int32} {n a : Nat} (h : ST v r) (hn : n ≤ 96) (hk : ¬ pbN (sg a) = 0) (g : DG sg n a) (u : NU sg nu a) : OE (M_X0_tellOne sg (nI n) v (nI a)) (M_X4_isDone r nu (sg a)) := by
  obtain ⟨P, T, d, w, hd, hd2, hr⟩ := id h
  have hP := w.1
  have hT := w.2.1
  obtain ⟨g0, g1, g2, g3⟩ := g
  obtain ⟨u1, u2, u3, u4⟩ := u
  have hp := pbN_le (sg a)
  unfold M_X0_tellOne M_X4_isDone
  rw [ad1, ad2, ad3, sign_c hn (by omega), sign_c hn (by omega), sign_c hn (by omega), sign_c hn (by omega), b1s, b1s, b1s, b1s, kindOf_c, b1s, b1s, if_pos (show a < n by omega), if_pos (show a + 1 < n by omega), if_pos (show a + 2 < n by omega)]
  rcases key_of hk with e | e | e | e | e | e | e
  · -- b
    obtain ⟨p1, p2⟩ := g1 (Or.inl e)
    obtain ⟨q1, q2⟩ := u1 (Or.inl e)
    obtain ⟨m1, m2, -⟩ := dN_of p1
    obtain ⟨n1, n2, -⟩ := dN_of p2
    rw [if_pos e, if_pos e, m1, n1, q1, q2, pn_c w (by omega), chkc, pn_m hr w (by omega), chkc, tellB_c w (by omega), tn_m hr w (by omega), chkc]
    by_cases c1 : dN sg (a + 1) < P
    · rw [if_pos c1, if_pos c1]
      by_cases c2 : dN sg (a + 2) < T
      · rw [if_pos c2, isWhole_m r (by omega), hr.br (by omega), chkc, ofT_nI, b1s, ad4, chk_nI (by omega) (by omega), nI_clamp (by omega)]
        by_cases c3 : sBr v (dN sg (a + 2)) = -9
        · rw [if_pos ⟨c2, c3⟩, if_pos c3, b2s, if_neg (show ¬ (1 : Int32) = 0 by decide)]
          exact ⟨_, _, Or.inl ⟨rfl, rfl, P, T, d, w.uBr _ (Or.inr (Or.inr ⟨_, c1, rfl⟩)), hd, hd2, hr.uBr _ (by omega) _⟩⟩
        · rw [if_neg (fun x => c3 x.2), if_neg c3, b2s, if_pos rfl]
          exact ⟨_, _, Or.inr ⟨rfl, rfl⟩⟩
      · rw [if_neg c2, if_neg (fun x => c2 x.1), b2s, if_pos rfl]
        exact ⟨_, _, Or.inr ⟨rfl, rfl⟩⟩
    · rw [if_neg c1, if_neg c1]
      exact ⟨_, _, Or.inr ⟨rfl, rfl⟩⟩
  · -- d
    obtain ⟨p1, p2⟩ := g1 (Or.inr (Or.inr (Or.inr e)))
    have q1 := u3 e
    obtain ⟨m1, m2, -⟩ := dN_of p1
    obtain ⟨n1, n2, -⟩ := dN_of p2
    have f1 : ¬ sg a = 98 := by rw [e]; decide
    have f2 : ¬ sg a = 110 := by rw [e]; decide
    have f3 : ¬ sg a = 112 := by rw [e]; decide
    have f4 : ¬ sg a = 115 := by rw [e]; decide
    have f5 : ¬ sg a = 116 := by rw [e]; decide
    have f6 : ¬ sg a = 119 := by rw [e]; decide
    have er : r 2 = nI d := by rw [hr.da, hd]
    rw [if_neg f1, if_neg f2, if_neg f3, if_neg f4, if_neg f5, if_neg f6, if_neg f1, if_neg f2, if_neg f3, if_neg f4, if_neg f5, if_neg f6, m1, n1, q1, show (10 : Int32) = nI 10 from rfl, pk_mul, nI_add, er, hd, nI_add, isIn_m, b1s, show (1 : Int32) = nI 1 from rfl, show (60 : Int32) = nI 60 from rfl, show (999 : Int32) = nI 999 from rfl, if_lt (by omega) (by omega), if_lt (by omega) (by omega), if_lt (by omega) (by omega), if_lt (by omega) (by omega), if_le (by omega) (by omega), if_le (by omega) (by omega)]
    by_cases c1 : 10 * dN sg (a + 1) + dN sg (a + 2) < 1
    · rw [if_pos c1, if_pos c1, if_pos rfl]
      exact ⟨_, _, Or.inr ⟨rfl, rfl⟩⟩
    · rw [if_neg c1, if_neg c1]
      by_cases c2 : 60 < 10 * dN sg (a + 1) + dN sg (a + 2)
      · rw [if_pos c2, if_pos c2, if_pos rfl]
        exact ⟨_, _, Or.inr ⟨rfl, rfl⟩⟩
      · rw [if_neg c2, if_neg c2, if_neg (show ¬ nI 1 = 0 by decide)]
        by_cases c3 : d + (10 * dN sg (a + 1) + dN sg (a + 2)) ≤ 999
        · obtain ⟨w', hd'⟩ := itD_wf (P := P) (T := T) (x := 1) (by omega) (-9) (10 * dN sg (a + 1) + dN sg (a + 2)) w hd (by omega)
          obtain ⟨r1, r', e1⟩ := daysOn_m (P := P) (T := T) (N := 10 * dN sg (a + 1) + dN sg (a + 2)) (by omega) hr w hd (by omega)
          rw [if_pos c3, if_pos c3, pass_c (P := P) (T := T) (x := 1) (by omega) (-9) (by omega) w hd (by omega), b1s, e1, b1s]
          exact ⟨_, _, Or.inl ⟨rfl, rfl, P, T, _, w', hd', c3, r'⟩⟩
        · rw [if_neg c3, if_neg c3]
          exact ⟨_, _, Or.inr ⟨rfl, rfl⟩⟩
  · -- n
    have p1 := g2 (Or.inl e)
    have q1 := u2 (Or.inl e)
    obtain ⟨m1, m2, -⟩ := dN_of p1
    have f1 : ¬ sg a = 98 := by rw [e]; decide
    rw [if_neg f1, if_neg f1, if_pos e, if_pos e, m1, q1, tellB_c w (by omega), tn_m hr w (by omega), chkc]
    by_cases c2 : dN sg (a + 1) < T
    · rw [if_pos c2, isWhole_m r (by omega), hr.br (by omega), chkc, ofT_nI, b1s, ad4, chk_nI (by omega) (by omega), nI_clamp (by omega)]
      by_cases c3 : sBr v (dN sg (a + 1)) = -9
      · rw [if_pos ⟨c2, c3⟩, if_pos c3, b2s, zch1]
        exact ⟨_, _, Or.inl ⟨rfl, rfl, P, T, d, w.uBr _ (Or.inr (Or.inl rfl)), hd, hd2, hr.uBr _ (by omega) _⟩⟩
      · rw [if_neg (fun x => c3 x.2), if_neg c3, b2s, zch0]
        exact ⟨_, _, Or.inr ⟨rfl, rfl⟩⟩
    · rw [if_neg c2, if_neg (fun x => c2 x.1), b2s, zch0]
      exact ⟨_, _, Or.inr ⟨rfl, rfl⟩⟩
  · -- p
    have p1 := g2 (Or.inr e)
    have q1 := u2 (Or.inr e)
    obtain ⟨m1, m2, -⟩ := dN_of p1
    have f1 : ¬ sg a = 98 := by rw [e]; decide
    have f2 : ¬ sg a = 110 := by rw [e]; decide
    obtain ⟨r1, h1, e1⟩ := addP_m hr w (nI (dN sg (a + 1)))
    rw [if_neg f1, if_neg f1, if_neg f2, if_neg f2, if_pos e, if_pos e, m1, q1, addP_c w, e1]
    by_cases c1 : P < 6
    · rw [if_pos c1, if_pos c1, b2s, b2s, zch1, zch1]
      exact ⟨_, _, Or.inl ⟨rfl, rfl, P + 1, T, d, adP_wf w c1 _, hd, hd2, h1 c1⟩⟩
    · rw [if_neg c1, if_neg c1, b2s, b2s, zch0, zch0]
      exact ⟨_, _, Or.inr ⟨rfl, rfl⟩⟩
  · -- s
    obtain ⟨p1, p2⟩ := g1 (Or.inr (Or.inl e))
    obtain ⟨q1, q2⟩ := u1 (Or.inr (Or.inl e))
    obtain ⟨m1, m2, -⟩ := dN_of p1
    obtain ⟨n1, n2, -⟩ := dN_of p2
    have f1 : ¬ sg a = 98 := by rw [e]; decide
    have f2 : ¬ sg a = 110 := by rw [e]; decide
    have f3 : ¬ sg a = 112 := by rw [e]; decide
    rw [if_neg f1, if_neg f1, if_neg f2, if_neg f2, if_neg f3, if_neg f3, if_pos e, if_pos e, m1, n1, q1, q2, pn_c w (by omega), chkc, pn_m hr w (by omega), chkc, tellB_c w (by omega), tn_m hr w (by omega), chkc]
    by_cases c1 : dN sg (a + 1) < P
    · rw [if_pos c1, if_pos c1]
      by_cases c2 : dN sg (a + 2) < T
      · rw [if_pos c2, ofT_nI, b1s, b1s, ad4, chk_nI (by omega) (by omega), chk_nI (by omega) (by omega), nI_clamp (by omega), hr.br (by omega)]
        by_cases c3 : sBr v (dN sg (a + 2)) = -8
        · rw [if_pos ⟨c2, c3⟩, if_pos c3, b2s, if_neg (show ¬ (1 : Int32) = 0 by decide)]
          exact ⟨_, _, Or.inl ⟨rfl, rfl, P, T, d, w.uBr _ (Or.inr (Or.inr ⟨_, c1, rfl⟩)), hd, hd2, hr.uBr _ (by omega) _⟩⟩
        · rw [if_neg (fun x => c3 x.2), if_neg c3, b2s, if_pos rfl]
          exact ⟨_, _, Or.inr ⟨rfl, rfl⟩⟩
      · rw [if_neg c2, if_neg (fun x => c2 x.1), b2s, if_pos rfl]
        exact ⟨_, _, Or.inr ⟨rfl, rfl⟩⟩
    · rw [if_neg c1, if_neg c1]
      exact ⟨_, _, Or.inr ⟨rfl, rfl⟩⟩
  · -- t
    obtain ⟨p1, p2, p3⟩ := g3 e
    obtain ⟨q1, q2, q3⟩ := u4 e
    obtain ⟨n1, n2, -⟩ := dN_of p2
    obtain ⟨o1, o2, -⟩ := dN_of p3
    have hp3 : pbN (sg a) = 3 := by rw [e]; rfl
    have f1 : ¬ sg a = 98 := by rw [e]; decide
    have f2 : ¬ sg a = 110 := by rw [e]; decide
    have f3 : ¬ sg a = 112 := by rw [e]; decide
    have f4 : ¬ sg a = 115 := by rw [e]; decide
    obtain ⟨r1, h1, e1⟩ := addT_m hr w (koI (sg (a + 1))) (nI (dN sg (a + 2))) (o := dN sg (a + 3)) (by omega)
    rw [if_neg f1, if_neg f1, if_neg f2, if_neg f2, if_neg f3, if_neg f3, if_neg f4, if_neg f4, if_pos e, if_pos e, if_pos (show a + 3 < n by omega), n1, o1, q1, q2, q3, addT_c w _ _ (by omega), e1]
    by_cases c1 : T < 9 ∧ dN sg (a + 3) < P
    · rw [if_pos c1, if_pos c1, b2s, b2s, zch1, zch1]
      exact ⟨_, _, Or.inl ⟨rfl, rfl, P, T + 1, d, adT_wf w c1.1 _ (by omega) c1.2, hd, hd2, h1 c1⟩⟩
    · rw [if_neg c1, if_neg c1, b2s, b2s, zch0, zch0]
      exact ⟨_, _, Or.inr ⟨rfl, rfl⟩⟩
  · -- w
    obtain ⟨p1, p2⟩ := g1 (Or.inr (Or.inr (Or.inl e)))
    obtain ⟨q1, q2⟩ := u1 (Or.inr (Or.inr e))
    obtain ⟨m1, m2, -⟩ := dN_of p1
    obtain ⟨n1, n2, -⟩ := dN_of p2
    have f1 : ¬ sg a = 98 := by rw [e]; decide
    have f2 : ¬ sg a = 110 := by rw [e]; decide
    have f3 : ¬ sg a = 112 := by rw [e]; decide
    have f4 : ¬ sg a = 115 := by rw [e]; decide
    have f5 : ¬ sg a = 116 := by rw [e]; decide
    unfold M_X0_tellWear
    rw [if_neg f1, if_neg f1, if_neg f2, if_neg f2, if_neg f3, if_neg f3, if_neg f4, if_neg f4, if_neg f5, if_neg f5, if_pos e, if_pos e, m1, n1, q1, q2, tn_c w (by omega), chkc, tn_m hr w (by omega), chkc]
    by_cases c2 : dN sg (a + 1) < T
    · rw [if_pos c2, if_pos c2, ofT_nI, b1s, ad3, chk_nI (by omega) (by omega), chk_nI (by omega) (by omega), nI_clamp (by omega), nI_clamp (by omega), b2s, zch1]
      exact ⟨_, _, Or.inl ⟨rfl, rfl, P, T, d, w.uWe _ _ n2, hd, hd2, hr.uWe _ (by omega) _⟩⟩
    · rw [if_neg c2, if_neg c2, b2s, zch0]
      exact ⟨_, _, Or.inr ⟨rfl, rfl⟩⟩
