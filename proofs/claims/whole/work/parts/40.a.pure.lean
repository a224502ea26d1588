/-! PURE: the class' functions and the reference's, over states that are the same -/
theorem fuelP {α : Type} (z : α) (F : α → α) (P : Nat → α → Prop) (h0 : P 0 z) (hs : ∀ k f, P k f → P (k + 1) (F f)) : ∀ n, P n (fuel z F n)
  | 0 => h0
  | n + 1 => hs n _ (fuelP z F P h0 hs n)
theorem fuelP2 {α β : Type} (z : α) (F : α → α) (y : β) (G : β → β) (P : Nat → α → β → Prop) (h0 : P 0 z y) (hs : ∀ k f g, P k f g → P (k + 1) (F f) (G g)) : ∀ n, P n (fuel z F n) (fuel y G n)
  | 0 => h0
  | n + 1 => hs n _ _ (fuelP2 z F y G P h0 hs n)
theorem FU_eq : FU = 5000 := rfl
theorem chk_nI {γ : Type} {i n : Nat} (h : i < n) (hn : n < 2 ^ 31) (A : Option γ) : chk (nI i) n A = A := by
  unfold chk
  exact if_neg (nI_in h hn)
theorem b1s {α γ : Type} (a : α) (f : α → Option γ) : bnd1 (some a) f = f a := rfl
theorem b2s {α β γ : Type} (a : α) (b : β) (f : α → β → Option γ) : bnd2 (some (a, b)) f = f a b := rfl
theorem b3s {α β δ γ : Type} (a : α) (b : β) (d : δ) (f : α → β → δ → Option γ) : bnd3 (some (a, b, d)) f = f a b d := rfl
theorem b4s {α β δ ε γ : Type} (a : α) (b : β) (d : δ) (e : ε) (f : α → β → δ → ε → Option γ) : bnd4 (some (a, b, d, e)) f = f a b d e := rfl
theorem zch0 {γ : Type} (A : Option γ) : zch 0 A = A := rfl
theorem zch1 {γ : Type} (A : Option γ) : zch 1 A = A := rfl
theorem ofT_nI (t : Nat) : M_X4_ofT (nI t) = some (nI (16 + 5 * t)) := by
  unfold M_X4_ofT
  rw [show (5 : Int32) = nI 5 from rfl, show (16 : Int32) = nI 16 from rfl, pk_mul, nI_add]
theorem ofP_nI (t : Nat) : M_X4_ofP (nI t) = some (nI (4 + 2 * t)) := by
  unfold M_X4_ofP
  rw [show (2 : Int32) = nI 2 from rfl, show (4 : Int32) = nI 4 from rfl, pk_mul, nI_add]
theorem ad0 (k : Nat) : nI k + (0 : Int32) = nI k := by rw [show (0 : Int32) = nI 0 from rfl, nI_add]; rfl
theorem ad1 (k : Nat) : nI k + (1 : Int32) = nI (k + 1) := nI_1 k
theorem ad2 (k : Nat) : nI k + (2 : Int32) = nI (k + 2) := by rw [show (2 : Int32) = nI 2 from rfl, nI_add]
theorem ad3 (k : Nat) : nI k + (3 : Int32) = nI (k + 3) := by rw [show (3 : Int32) = nI 3 from rfl, nI_add]
theorem ad4 (k : Nat) : nI k + (4 : Int32) = nI (k + 4) := by rw [show (4 : Int32) = nI 4 from rfl, nI_add]
theorem le_nI {a b : Nat} (ha : a < 2 ^ 31) (hb : b < 2 ^ 31) : (nI a ≤ nI b) = (a ≤ b) := propext (nI_leI ha hb)
theorem lt_nI {a b : Nat} (ha : a < 2 ^ 31) (hb : b < 2 ^ 31) : (nI a < nI b) = (a < b) := propext (nI_ltI ha hb)
theorem eq_nI {a b : Nat} (ha : a < 2 ^ 31) (hb : b < 2 ^ 31) : (nI a = nI b) = (a = b) := propext (nI_eq ha hb)
theorem lt0_nI {a : Nat} (ha : a < 2 ^ 31) : (nI a < 0) = False := eq_false (nI_pos ha)
theorem up_s {f : Nat → Int32} {k : Nat} {x : Int32} : upd f k x k = x := pk_us
theorem up_n {f : Nat → Int32} {k j : Nat} {x : Int32} (h : j ≠ k) : upd f k x j = f j := pk_un h
theorem up_u (f : Nat → Int32) (k : Nat) (x y : Int32) : upd (upd f k x) k y = upd f k y := by
  funext j
  by_cases h : j = k
  · subst h; rw [up_s, up_s]
  · rw [up_n h, up_n h, up_n h]
theorem up_id (f : Nat → Int32) (k : Nat) : upd f k (f k) = f := by
  funext j
  by_cases h : j = k
  · subst h; rw [up_s]
  · rw [up_n h]
/-! ### the same state: in the class' words and in the reference's row -/
def RR (v : SV) (i : Int32) (r : Nat → Int32) : Prop :=
  (r 0 = sPe v ∧ r 1 = sTh v ∧ r 2 = sDa v ∧ r 3 = i) ∧ (∀ p, p < 6 → r (4 + 2 * p) = sSk v p ∧ r (4 + 2 * p + 1) = sMe v p) ∧
  (∀ t, t < 9 → r (16 + 5 * t) = sKi v t ∧ r (16 + 5 * t + 1) = sFi v t ∧ r (16 + 5 * t + 2) = sOw v t ∧ r (16 + 5 * t + 3) = sWe v t ∧ r (16 + 5 * t + 4) = sBr v t)
def BR (P : Nat) (b : Int32) : Prop := b = -9 ∨ b = -8 ∨ ∃ q : Nat, q < P ∧ b = nI q
def WF (v : SV) (P T : Nat) : Prop := P ≤ 6 ∧ T ≤ 9 ∧ sPe v = nI P ∧ sTh v = nI T ∧ ∀ t, t < T → (∃ o : Nat, o < P ∧ sOw v t = nI o) ∧ BR P (sBr v t) ∧ (∃ w : Nat, w ≤ 9 ∧ sWe v t = nI w) ∧ ∃ f : Nat, f ≤ 9 ∧ sFi v t = nI f
theorem RR.pe {v : SV} {i : Int32} {r : Nat → Int32} (h : RR v i r) : r 0 = sPe v := h.1.1
theorem RR.th {v : SV} {i : Int32} {r : Nat → Int32} (h : RR v i r) : r 1 = sTh v := h.1.2.1
theorem RR.da {v : SV} {i : Int32} {r : Nat → Int32} (h : RR v i r) : r 2 = sDa v := h.1.2.2.1
theorem RR.id {v : SV} {i : Int32} {r : Nat → Int32} (h : RR v i r) : r 3 = i := h.1.2.2.2
theorem RR.sk {v : SV} {i : Int32} {r : Nat → Int32} (h : RR v i r) {p : Nat} (hp : p < 6) : r (4 + 2 * p) = sSk v p := (h.2.1 p hp).1
theorem RR.me {v : SV} {i : Int32} {r : Nat → Int32} (h : RR v i r) {p : Nat} (hp : p < 6) : r (4 + 2 * p + 1) = sMe v p := (h.2.1 p hp).2
theorem RR.ki {v : SV} {i : Int32} {r : Nat → Int32} (h : RR v i r) {t : Nat} (ht : t < 9) : r (16 + 5 * t) = sKi v t := (h.2.2 t ht).1
theorem RR.fi {v : SV} {i : Int32} {r : Nat → Int32} (h : RR v i r) {t : Nat} (ht : t < 9) : r (16 + 5 * t + 1) = sFi v t := (h.2.2 t ht).2.1
theorem RR.ow {v : SV} {i : Int32} {r : Nat → Int32} (h : RR v i r) {t : Nat} (ht : t < 9) : r (16 + 5 * t + 2) = sOw v t := (h.2.2 t ht).2.2.1
theorem RR.we {v : SV} {i : Int32} {r : Nat → Int32} (h : RR v i r) {t : Nat} (ht : t < 9) : r (16 + 5 * t + 3) = sWe v t := (h.2.2 t ht).2.2.2.1
theorem RR.br {v : SV} {i : Int32} {r : Nat → Int32} (h : RR v i r) {t : Nat} (ht : t < 9) : r (16 + 5 * t + 4) = sBr v t := (h.2.2 t ht).2.2.2.2
/-- a write on both sides -/
theorem RR.uBr {v : SV} {i : Int32} {r : Nat → Int32} (h : RR v i r) (t : Nat) (ht : t < 9) (x : Int32) : RR (sUBr v (upd (sBr v) t x)) i (upd r (16 + 5 * t + 4) x) := by
  refine ⟨⟨?_, ?_, ?_, ?_⟩, fun p hp => ⟨?_, ?_⟩, fun u hu => ⟨?_, ?_, ?_, ?_, ?_⟩⟩
  · rw [up_n (by omega)]; exact h.pe
  · rw [up_n (by omega)]; exact h.th
  · rw [up_n (by omega)]; exact h.da
  · rw [up_n (by omega)]; exact h.id
  · rw [up_n (by omega)]; exact h.sk hp
  · rw [up_n (by omega)]; exact h.me hp
  · rw [up_n (by omega)]; exact h.ki hu
  · rw [up_n (by omega)]; exact h.fi hu
  · rw [up_n (by omega)]; exact h.ow hu
  · rw [up_n (by omega)]; exact h.we hu
  · show _ = upd (sBr v) t x u
    by_cases e : u = t
    · subst e; rw [up_s, up_s]
    · rw [up_n (by omega), up_n e]; exact h.br hu
theorem RR.uWe {v : SV} {i : Int32} {r : Nat → Int32} (h : RR v i r) (t : Nat) (ht : t < 9) (x : Int32) : RR (sUWe v (upd (sWe v) t x)) i (upd r (16 + 5 * t + 3) x) := by
  refine ⟨⟨?_, ?_, ?_, ?_⟩, fun p hp => ⟨?_, ?_⟩, fun u hu => ⟨?_, ?_, ?_, ?_, ?_⟩⟩
  · rw [up_n (by omega)]; exact h.pe
  · rw [up_n (by omega)]; exact h.th
  · rw [up_n (by omega)]; exact h.da
  · rw [up_n (by omega)]; exact h.id
  · rw [up_n (by omega)]; exact h.sk hp
  · rw [up_n (by omega)]; exact h.me hp
  · rw [up_n (by omega)]; exact h.ki hu
  · rw [up_n (by omega)]; exact h.fi hu
  · rw [up_n (by omega)]; exact h.ow hu
  · show _ = upd (sWe v) t x u
    by_cases e : u = t
    · subst e; rw [up_s, up_s]
    · rw [up_n (by omega), up_n e]; exact h.we hu
  · rw [up_n (by omega)]; exact h.br hu
theorem RR.uKi {v : SV} {i : Int32} {r : Nat → Int32} (h : RR v i r) (t : Nat) (ht : t < 9) (x : Int32) : RR (sUKi v (upd (sKi v) t x)) i (upd r (16 + 5 * t) x) := by
  refine ⟨⟨?_, ?_, ?_, ?_⟩, fun p hp => ⟨?_, ?_⟩, fun u hu => ⟨?_, ?_, ?_, ?_, ?_⟩⟩
  · rw [up_n (by omega)]; exact h.pe
  · rw [up_n (by omega)]; exact h.th
  · rw [up_n (by omega)]; exact h.da
  · rw [up_n (by omega)]; exact h.id
  · rw [up_n (by omega)]; exact h.sk hp
  · rw [up_n (by omega)]; exact h.me hp
  · show _ = upd (sKi v) t x u
    by_cases e : u = t
    · subst e; rw [up_s, up_s]
    · rw [up_n (by omega), up_n e]; exact h.ki hu
  · rw [up_n (by omega)]; exact h.fi hu
  · rw [up_n (by omega)]; exact h.ow hu
  · rw [up_n (by omega)]; exact h.we hu
  · rw [up_n (by omega)]; exact h.br hu
theorem RR.uFi {v : SV} {i : Int32} {r : Nat → Int32} (h : RR v i r) (t : Nat) (ht : t < 9) (x : Int32) : RR (sUFi v (upd (sFi v) t x)) i (upd r (16 + 5 * t + 1) x) := by
  refine ⟨⟨?_, ?_, ?_, ?_⟩, fun p hp => ⟨?_, ?_⟩, fun u hu => ⟨?_, ?_, ?_, ?_, ?_⟩⟩
  · rw [up_n (by omega)]; exact h.pe
  · rw [up_n (by omega)]; exact h.th
  · rw [up_n (by omega)]; exact h.da
  · rw [up_n (by omega)]; exact h.id
  · rw [up_n (by omega)]; exact h.sk hp
  · rw [up_n (by omega)]; exact h.me hp
  · rw [up_n (by omega)]; exact h.ki hu
  · show _ = upd (sFi v) t x u
    by_cases e : u = t
    · subst e; rw [up_s, up_s]
    · rw [up_n (by omega), up_n e]; exact h.fi hu
  · rw [up_n (by omega)]; exact h.ow hu
  · rw [up_n (by omega)]; exact h.we hu
  · rw [up_n (by omega)]; exact h.br hu
theorem RR.uOw {v : SV} {i : Int32} {r : Nat → Int32} (h : RR v i r) (t : Nat) (ht : t < 9) (x : Int32) : RR (sUOw v (upd (sOw v) t x)) i (upd r (16 + 5 * t + 2) x) := by
  refine ⟨⟨?_, ?_, ?_, ?_⟩, fun p hp => ⟨?_, ?_⟩, fun u hu => ⟨?_, ?_, ?_, ?_, ?_⟩⟩
  · rw [up_n (by omega)]; exact h.pe
  · rw [up_n (by omega)]; exact h.th
  · rw [up_n (by omega)]; exact h.da
  · rw [up_n (by omega)]; exact h.id
  · rw [up_n (by omega)]; exact h.sk hp
  · rw [up_n (by omega)]; exact h.me hp
  · rw [up_n (by omega)]; exact h.ki hu
  · rw [up_n (by omega)]; exact h.fi hu
  · show _ = upd (sOw v) t x u
    by_cases e : u = t
    · subst e; rw [up_s, up_s]
    · rw [up_n (by omega), up_n e]; exact h.ow hu
  · rw [up_n (by omega)]; exact h.we hu
  · rw [up_n (by omega)]; exact h.br hu
theorem RR.uSk {v : SV} {i : Int32} {r : Nat → Int32} (h : RR v i r) (t : Nat) (ht : t < 6) (x : Int32) : RR (sUSk v (upd (sSk v) t x)) i (upd r (4 + 2 * t) x) := by
  refine ⟨⟨?_, ?_, ?_, ?_⟩, fun p hp => ⟨?_, ?_⟩, fun u hu => ⟨?_, ?_, ?_, ?_, ?_⟩⟩
  · rw [up_n (by omega)]; exact h.pe
  · rw [up_n (by omega)]; exact h.th
  · rw [up_n (by omega)]; exact h.da
  · rw [up_n (by omega)]; exact h.id
  · show _ = upd (sSk v) t x p
    by_cases e : p = t
    · subst e; rw [up_s, up_s]
    · rw [up_n (by omega), up_n e]; exact h.sk hp
  · rw [up_n (by omega)]; exact h.me hp
  · rw [up_n (by omega)]; exact h.ki hu
  · rw [up_n (by omega)]; exact h.fi hu
  · rw [up_n (by omega)]; exact h.ow hu
  · rw [up_n (by omega)]; exact h.we hu
  · rw [up_n (by omega)]; exact h.br hu
theorem RR.uMe {v : SV} {i : Int32} {r : Nat → Int32} (h : RR v i r) (t : Nat) (ht : t < 6) (x : Int32) : RR (sUMe v (upd (sMe v) t x)) i (upd r (4 + 2 * t + 1) x) := by
  refine ⟨⟨?_, ?_, ?_, ?_⟩, fun p hp => ⟨?_, ?_⟩, fun u hu => ⟨?_, ?_, ?_, ?_, ?_⟩⟩
  · rw [up_n (by omega)]; exact h.pe
  · rw [up_n (by omega)]; exact h.th
  · rw [up_n (by omega)]; exact h.da
  · rw [up_n (by omega)]; exact h.id
  · rw [up_n (by omega)]; exact h.sk hp
  · show _ = upd (sMe v) t x p
    by_cases e : p = t
    · subst e; rw [up_s, up_s]
    · rw [up_n (by omega), up_n e]; exact h.me hp
  · rw [up_n (by omega)]; exact h.ki hu
  · rw [up_n (by omega)]; exact h.fi hu
  · rw [up_n (by omega)]; exact h.ow hu
  · rw [up_n (by omega)]; exact h.we hu
  · rw [up_n (by omega)]; exact h.br hu
theorem RR.hd {v : SV} {i : Int32} {r r' : Nat → Int32} (h : RR v i r) (w : SV) (j : Int32) (hb : ∀ k, 4 ≤ k → r' k = r k) (e1 : sSk w = sSk v) (e2 : sMe w = sMe v) (e3 : sKi w = sKi v) (e4 : sFi w = sFi v) (e5 : sOw w = sOw v) (e6 : sWe w = sWe v) (e7 : sBr w = sBr v) (a : r' 0 = sPe w) (b : r' 1 = sTh w) (c : r' 2 = sDa w) (d : r' 3 = j) : RR w j r' := by
  refine ⟨⟨a, b, c, d⟩, fun p hp => ⟨?_, ?_⟩, fun u hu => ⟨?_, ?_, ?_, ?_, ?_⟩⟩
  · rw [hb _ (by omega), e1]; exact h.sk hp
  · rw [hb _ (by omega), e2]; exact h.me hp
  · rw [hb _ (by omega), e3]; exact h.ki hu
  · rw [hb _ (by omega), e4]; exact h.fi hu
  · rw [hb _ (by omega), e5]; exact h.ow hu
  · rw [hb _ (by omega), e6]; exact h.we hu
  · rw [hb _ (by omega), e7]; exact h.br hu
theorem RR.uDa {v : SV} {i : Int32} {r : Nat → Int32} (h : RR v i r) (x : Int32) : RR (sUDa v x) i (upd r 2 x) :=
  h.hd (sUDa v x) i (fun k hk => up_n (by omega)) rfl rfl rfl rfl rfl rfl rfl ((up_n (by omega)).trans h.pe) ((up_n (by omega)).trans h.th) up_s ((up_n (by omega)).trans h.id)
theorem RR.uPe {v : SV} {i : Int32} {r : Nat → Int32} (h : RR v i r) (x : Int32) : RR (sUPe v x) i (upd r 0 x) :=
  h.hd (sUPe v x) i (fun k hk => up_n (by omega)) rfl rfl rfl rfl rfl rfl rfl up_s ((up_n (by omega)).trans h.th) ((up_n (by omega)).trans h.da) ((up_n (by omega)).trans h.id)
theorem RR.uTh {v : SV} {i : Int32} {r : Nat → Int32} (h : RR v i r) (x : Int32) : RR (sUTh v x) i (upd r 1 x) :=
  h.hd (sUTh v x) i (fun k hk => up_n (by omega)) rfl rfl rfl rfl rfl rfl rfl ((up_n (by omega)).trans h.pe) up_s ((up_n (by omega)).trans h.da) ((up_n (by omega)).trans h.id)
theorem RR.uId {v : SV} {i : Int32} {r : Nat → Int32} (h : RR v i r) (x : Int32) : RR v x (upd r 3 x) :=
  h.hd v x (fun k hk => up_n (by omega)) rfl rfl rfl rfl rfl rfl rfl ((up_n (by omega)).trans h.pe) ((up_n (by omega)).trans h.th) ((up_n (by omega)).trans h.da) up_s
/-! ### reads -/
theorem isWhole_c (v : SV) {t : Nat} (ht : t < 9) : M_X2_isWhole v (nI t) = some (if sBr v t = -9 then 1 else 0) := by
  unfold M_X2_isWhole
  rw [chk_nI ht (by omega), nI_clamp (by omega)]
  split <;> rfl
theorem isWhole_m (r : Nat → Int32) {t : Nat} (ht : t < 9) : M_X4_isWhole r (nI t) = some (if r (16 + 5 * t + 4) = -9 then 1 else 0) := by
  unfold M_X4_isWhole
  rw [ofT_nI, b1s, ad4, chk_nI (by omega) (by omega), nI_clamp (by omega)]
  split <;> rfl
theorem isMourned_c (v : SV) {t : Nat} (ht : t < 9) : M_X2_isMourned v (nI t) = some (if sBr v t = -8 then 1 else 0) := by
  unfold M_X2_isMourned
  rw [chk_nI ht (by omega), nI_clamp (by omega)]
  split <;> rfl
theorem isIn_m (x a b : Int32) : M_X4_isIn x a b = some (if x < a then 0 else if b < x then 0 else 1) := by
  unfold M_X4_isIn
  split
  · rfl
  · split <;> rfl
theorem isP_c (v : SV) (x : Int32) : M_X2_isPerson v x = some (if 0 ≤ x ∧ x < sPe v then 1 else 0) := by
  unfold M_X2_isPerson
  by_cases h : x < 0
  · rw [if_pos h, if_neg (fun q : 0 ≤ x ∧ x < sPe v => Int32.lt_irrefl (Int32.lt_of_lt_of_le h q.1))]
  · rw [if_neg h]
    by_cases h2 : sPe v ≤ x
    · rw [if_pos h2, if_neg (fun q : 0 ≤ x ∧ x < sPe v => Int32.lt_irrefl (Int32.lt_of_lt_of_le q.2 h2))]
    · rw [if_neg h2, if_pos ⟨Int32.not_lt.mp h, Int32.not_le.mp h2⟩]
theorem isT_c (v : SV) (x : Int32) : M_X2_isThing v x = some (if 0 ≤ x ∧ x < sTh v then 1 else 0) := by
  unfold M_X2_isThing
  by_cases h : x < 0
  · rw [if_pos h, if_neg (fun q : 0 ≤ x ∧ x < sTh v => Int32.lt_irrefl (Int32.lt_of_lt_of_le h q.1))]
  · rw [if_neg h]
    by_cases h2 : sTh v ≤ x
    · rw [if_pos h2, if_neg (fun q : 0 ≤ x ∧ x < sTh v => Int32.lt_irrefl (Int32.lt_of_lt_of_le q.2 h2))]
    · rw [if_neg h2, if_pos ⟨Int32.not_lt.mp h, Int32.not_le.mp h2⟩]
theorem isIn_ix (x : Int32) {N : Nat} (hN : N < 100) : M_X4_isIn x 0 (nI N - 1) = some (if 0 ≤ x ∧ x < nI N then 1 else 0) := by
  rw [isIn_m]
  have e : (nI N - 1 : Int32).toInt = (N : Int) - 1 := by
    rw [show (1 : Int32) = nI 1 from rfl, pk_sub_toInt (by omega) (by omega)]
    rfl
  have e2 : (nI N).toInt = (N : Int) := nI_toInt (by omega)
  have h1 : (x < 0) ↔ x.toInt < 0 := Int32.lt_iff_toInt_lt
  have h2 : (nI N - 1 < x) ↔ (N : Int) - 1 < x.toInt := by rw [Int32.lt_iff_toInt_lt, e]
  have h3 : (0 ≤ x) ↔ 0 ≤ x.toInt := Int32.le_iff_toInt_le
  have h4 : (x < nI N) ↔ x.toInt < (N : Int) := by rw [Int32.lt_iff_toInt_lt, e2]
  congr 1
  by_cases a : x < 0
  · rw [if_pos a, if_neg (fun q => by have := h1.mp a; have := h3.mp q.1; omega)]
  · rw [if_neg a]
    by_cases b : nI N - 1 < x
    · rw [if_pos b, if_neg (fun q => by have := h2.mp b; have := h4.mp q.2; omega)]
    · rw [if_neg b, if_pos ⟨h3.mpr (by have := mt h1.mpr a; omega), h4.mpr (by have := mt h2.mpr b; omega)⟩]
theorem isP_m {v : SV} {i : Int32} {r : Nat → Int32} (h : RR v i r) {P T : Nat} (w : WF v P T) (x : Int32) : M_X4_isPerson r x = some (if 0 ≤ x ∧ x < sPe v then 1 else 0) := by
  unfold M_X4_isPerson
  rw [h.pe, w.2.2.1, isIn_ix x (by have := w.1; omega), b1s]
  split <;> rfl
theorem isT_m {v : SV} {i : Int32} {r : Nat → Int32} (h : RR v i r) {P T : Nat} (w : WF v P T) (x : Int32) : M_X4_isThing r x = some (if 0 ≤ x ∧ x < sTh v then 1 else 0) := by
  unfold M_X4_isThing
  rw [h.th, w.2.2.2.1, isIn_ix x (by have := w.2.1; omega), b1s]
  split <;> rfl
theorem ix_of {x : Int32} {N : Nat} (hN : N < 100) (h : 0 ≤ x ∧ x < nI N) : ∃ k : Nat, k < N ∧ x = nI k := by
  obtain ⟨j, hj, rfl⟩ := nI_of (Int32.not_lt.mpr h.1)
  exact ⟨j, (nI_ltI hj (by omega)).mp h.2, rfl⟩
theorem ix_nI {k N : Nat} (hk : k < N) (hN : N < 100) : 0 ≤ nI k ∧ nI k < nI N := ⟨nI_pos' (by omega), nI_lt hk (by omega)⟩
/-! ### how hard; who may mend -/
def mn (a x : Int32) : Int32 := if x < a then x else a
theorem least_m (a x : Int32) : M_X4_least a x = some (mn a x) := by
  unfold M_X4_least mn
  by_cases h : x < a
  · rw [if_pos h, if_pos (Int32.le_of_lt h)]
  · rw [if_neg h]
    by_cases h2 : x ≤ a
    · rw [if_pos h2, Int32.le_antisymm h2 (Int32.not_lt.mp h)]
    · rw [if_neg h2]
def hS (v : SV) (t : Nat) : Int32 := if sKi v t = 1 then sFi v t / 2 else if sKi v t = 3 then mn 9 (sFi v t + 1) else if sKi v t = 4 then mn 9 (sFi v t + 2) else if sKi v t = 5 then (if sSk v (sOw v t).toNatClampNeg < 5 then mn 9 (sFi v t + 1) else 0) else sFi v t
theorem hard_c {v : SV} {P T : Nat} (w : WF v P T) {t : Nat} (ht : t < T) : M_X2_hardOf v (nI t) = some (hS v t) := by
  obtain ⟨hP, hT, eP, eT, hw⟩ := w
  obtain ⟨⟨o, ho, eo⟩, -, -⟩ := hw t ht
  unfold M_X2_hardOf hS
  rw [chk_nI (by omega) (by omega), chk_nI (by omega) (by omega), chk_nI (by omega) (by omega), nI_clamp (by omega), isP_c, eP, eo, if_pos (ix_nI ho (by omega)), b1s, chk_nI (by omega) (by omega)]
  by_cases h1 : sKi v t = 1
  · rw [if_pos h1, if_pos h1]
  · rw [if_neg h1, if_neg h1]
    by_cases h3 : sKi v t = 3
    · rw [if_pos h3, if_pos h3]; rfl
    · rw [if_neg h3, if_neg h3]
      by_cases h4 : sKi v t = 4
      · rw [if_pos h4, if_pos h4]; rfl
      · rw [if_neg h4, if_neg h4]
        by_cases h5 : sKi v t = 5
        · rw [if_pos h5, if_pos h5, if_neg (by decide)]
          split <;> rfl
        · rw [if_neg h5, if_neg h5]
theorem hard_m {v : SV} {i : Int32} {r : Nat → Int32} (h : RR v i r) {P T : Nat} (w : WF v P T) {t : Nat} (ht : t < T) : M_X4_hard r (nI t) = some (hS v t) := by
  obtain ⟨hP, hT, eP, eT, hw⟩ := w
  obtain ⟨⟨o, ho, eo⟩, -, -⟩ := hw t ht
  have ht9 : t < 9 := by omega
  unfold M_X4_hard hS
  simp only [ofT_nI, b1s, ad0, ad1, ad2]
  rw [chk_nI (by omega) (by omega), chk_nI (by omega) (by omega), chk_nI (by omega) (by omega), nI_clamp (by omega), nI_clamp (by omega), nI_clamp (by omega), h.ki ht9, h.fi ht9, h.ow ht9, eo, ofP_nI, b1s, ad0, chk_nI (by omega) (by omega), nI_clamp (by omega), nI_clamp (by omega), h.sk (by omega)]
  simp only [least_m, b1s]
  by_cases h1 : sKi v t = 1
  · rw [if_pos h1, if_pos h1]
  · rw [if_neg h1, if_neg h1]
    by_cases h3 : sKi v t = 3
    · rw [if_pos h3, if_pos h3]
    · rw [if_neg h3, if_neg h3]
      by_cases h4 : sKi v t = 4
      · rw [if_pos h4, if_pos h4]
      · rw [if_neg h4, if_neg h4]
        by_cases h5 : sKi v t = 5
        · rw [if_pos h5, if_pos h5]
          split <;> rfl
        · rw [if_neg h5, if_neg h5]
abbrev mmS (v : SV) (p t : Nat) : Prop := ¬ sBr v t < 0 ∧ ¬ sBr v t = nI p ∧ ¬ sSk v p < hS v t
theorem may_c {v : SV} {P T : Nat} (w : WF v P T) {p t : Nat} (hp : p < P) (ht : t < T) : M_X2_mayMend v (nI p) (nI t) = some (if mmS v p t then 1 else 0) := by
  have hP := w.1
  have hT := w.2.1
  unfold M_X2_mayMend
  rw [hard_c w ht, b1s, chk_nI (by omega) (by omega), chk_nI (by omega) (by omega), nI_clamp (by omega), nI_clamp (by omega)]
  by_cases h1 : sBr v t < 0
  · rw [if_pos h1, if_neg (fun q => q.1 h1)]
  · rw [if_neg h1]
    by_cases h2 : sBr v t = nI p
    · rw [if_pos h2, if_neg (fun q => q.2.1 h2)]
    · rw [if_neg h2]
      by_cases h3 : sSk v p < hS v t
      · rw [if_pos h3, if_neg (fun q => q.2.2 h3)]
      · rw [if_neg h3, if_pos ⟨h1, h2, h3⟩]
theorem able_m {v : SV} {i : Int32} {r : Nat → Int32} (h : RR v i r) {P T : Nat} (w : WF v P T) {p t : Nat} (hp : p < P) (ht : t < T) : M_X4_isAble r (nI p) (nI t) = some (if sSk v p < hS v t then 0 else 1) := by
  have hP := w.1
  unfold M_X4_isAble
  rw [hard_m h w ht, ofP_nI, b1s, b1s, ad0, chk_nI (by omega) (by omega), nI_clamp (by omega), h.sk (by omega)]
  split <;> rfl
theorem may_m {v : SV} {i : Int32} {r : Nat → Int32} (h : RR v i r) {P T : Nat} (w : WF v P T) {p t : Nat} (hp : p < P) (ht : t < T) : M_X4_mayMend r (nI p) (nI t) = some (if mmS v p t then 1 else 0) := by
  have hP := w.1
  have hT := w.2.1
  unfold M_X4_mayMend
  rw [able_m h w hp ht]
  simp only [ofT_nI, b1s, ad4]
  rw [chk_nI (by omega) (by omega), chk_nI (by omega) (by omega), nI_clamp (by omega), h.br (by omega)]
  by_cases h1 : sBr v t < 0
  · rw [if_pos h1, if_neg (fun q => q.1 h1)]
  · rw [if_neg h1]
    by_cases h2 : sBr v t = nI p
    · rw [if_pos h2, if_neg (fun q => q.2.1 h2)]
    · rw [if_neg h2]
      by_cases h3 : sSk v p < hS v t
      · rw [if_pos h3, if_pos rfl, if_neg (fun q : mmS v p t => q.2.2 h3)]
      · rw [if_neg h3, if_neg (by decide), if_pos ⟨h1, h2, h3⟩]
