/-! Glue: contracts that keep a world's cells in their places, and calls of such methods. -/
theorem fx_ite_t {c : Prop} {i : Decidable c} {α : Type} {A B y : α} (hc : c) (h : (if c then A else B) = y) : A = y := by rw [if_pos hc] at h; exact h
theorem fx_ite_f {c : Prop} {i : Decidable c} {α : Type} {A B y : α} (hc : ¬ c) (h : (if c then A else B) = y) : B = y := by rw [if_neg hc] at h; exact h
def bnd1 {α1 γ : Type} (o : Option (α1)) (f : α1 → Option γ) : Option γ := match o with
  | none => none
  | some q => f q
theorem bnd1_inv {α1 γ : Type} {o : Option (α1)} {f : α1 → Option γ} {y : γ} (h : bnd1 o f = some y) : ∃ a1, o = some (a1) ∧ f a1 = some y := by
  cases o with
  | none => exact nomatch h
  | some q => exact ⟨q, rfl, h⟩
def bnd2 {α1 α2 γ : Type} (o : Option (α1 × α2)) (f : α1 → α2 → Option γ) : Option γ := match o with
  | none => none
  | some q => f q.1 q.2
theorem bnd2_inv {α1 α2 γ : Type} {o : Option (α1 × α2)} {f : α1 → α2 → Option γ} {y : γ} (h : bnd2 o f = some y) : ∃ a1 a2, o = some (a1, a2) ∧ f a1 a2 = some y := by
  cases o with
  | none => exact nomatch h
  | some q => exact ⟨q.1, q.2, rfl, h⟩
def bnd3 {α1 α2 α3 γ : Type} (o : Option (α1 × α2 × α3)) (f : α1 → α2 → α3 → Option γ) : Option γ := match o with
  | none => none
  | some q => f q.1 q.2.1 q.2.2
theorem bnd3_inv {α1 α2 α3 γ : Type} {o : Option (α1 × α2 × α3)} {f : α1 → α2 → α3 → Option γ} {y : γ} (h : bnd3 o f = some y) : ∃ a1 a2 a3, o = some (a1, a2, a3) ∧ f a1 a2 a3 = some y := by
  cases o with
  | none => exact nomatch h
  | some q => exact ⟨q.1, q.2.1, q.2.2, rfl, h⟩
def bnd4 {α1 α2 α3 α4 γ : Type} (o : Option (α1 × α2 × α3 × α4)) (f : α1 → α2 → α3 → α4 → Option γ) : Option γ := match o with
  | none => none
  | some q => f q.1 q.2.1 q.2.2.1 q.2.2.2
theorem bnd4_inv {α1 α2 α3 α4 γ : Type} {o : Option (α1 × α2 × α3 × α4)} {f : α1 → α2 → α3 → α4 → Option γ} {y : γ} (h : bnd4 o f = some y) : ∃ a1 a2 a3 a4, o = some (a1, a2, a3, a4) ∧ f a1 a2 a3 a4 = some y := by
  cases o with
  | none => exact nomatch h
  | some q => exact ⟨q.1, q.2.1, q.2.2.1, q.2.2.2, rfl, h⟩
def bnd5 {α1 α2 α3 α4 α5 γ : Type} (o : Option (α1 × α2 × α3 × α4 × α5)) (f : α1 → α2 → α3 → α4 → α5 → Option γ) : Option γ := match o with
  | none => none
  | some q => f q.1 q.2.1 q.2.2.1 q.2.2.2.1 q.2.2.2.2
theorem bnd5_inv {α1 α2 α3 α4 α5 γ : Type} {o : Option (α1 × α2 × α3 × α4 × α5)} {f : α1 → α2 → α3 → α4 → α5 → Option γ} {y : γ} (h : bnd5 o f = some y) : ∃ a1 a2 a3 a4 a5, o = some (a1, a2, a3, a4, a5) ∧ f a1 a2 a3 a4 a5 = some y := by
  cases o with
  | none => exact nomatch h
  | some q => exact ⟨q.1, q.2.1, q.2.2.1, q.2.2.2.1, q.2.2.2.2, rfl, h⟩
def bnd6 {α1 α2 α3 α4 α5 α6 γ : Type} (o : Option (α1 × α2 × α3 × α4 × α5 × α6)) (f : α1 → α2 → α3 → α4 → α5 → α6 → Option γ) : Option γ := match o with
  | none => none
  | some q => f q.1 q.2.1 q.2.2.1 q.2.2.2.1 q.2.2.2.2.1 q.2.2.2.2.2
theorem bnd6_inv {α1 α2 α3 α4 α5 α6 γ : Type} {o : Option (α1 × α2 × α3 × α4 × α5 × α6)} {f : α1 → α2 → α3 → α4 → α5 → α6 → Option γ} {y : γ} (h : bnd6 o f = some y) : ∃ a1 a2 a3 a4 a5 a6, o = some (a1, a2, a3, a4, a5, a6) ∧ f a1 a2 a3 a4 a5 a6 = some y := by
  cases o with
  | none => exact nomatch h
  | some q => exact ⟨q.1, q.2.1, q.2.2.1, q.2.2.2.1, q.2.2.2.2.1, q.2.2.2.2.2, rfl, h⟩
def bnd7 {α1 α2 α3 α4 α5 α6 α7 γ : Type} (o : Option (α1 × α2 × α3 × α4 × α5 × α6 × α7)) (f : α1 → α2 → α3 → α4 → α5 → α6 → α7 → Option γ) : Option γ := match o with
  | none => none
  | some q => f q.1 q.2.1 q.2.2.1 q.2.2.2.1 q.2.2.2.2.1 q.2.2.2.2.2.1 q.2.2.2.2.2.2
theorem bnd7_inv {α1 α2 α3 α4 α5 α6 α7 γ : Type} {o : Option (α1 × α2 × α3 × α4 × α5 × α6 × α7)} {f : α1 → α2 → α3 → α4 → α5 → α6 → α7 → Option γ} {y : γ} (h : bnd7 o f = some y) : ∃ a1 a2 a3 a4 a5 a6 a7, o = some (a1, a2, a3, a4, a5, a6, a7) ∧ f a1 a2 a3 a4 a5 a6 a7 = some y := by
  cases o with
  | none => exact nomatch h
  | some q => exact ⟨q.1, q.2.1, q.2.2.1, q.2.2.2.1, q.2.2.2.2.1, q.2.2.2.2.2.1, q.2.2.2.2.2.2, rfl, h⟩
def bnd8 {α1 α2 α3 α4 α5 α6 α7 α8 γ : Type} (o : Option (α1 × α2 × α3 × α4 × α5 × α6 × α7 × α8)) (f : α1 → α2 → α3 → α4 → α5 → α6 → α7 → α8 → Option γ) : Option γ := match o with
  | none => none
  | some q => f q.1 q.2.1 q.2.2.1 q.2.2.2.1 q.2.2.2.2.1 q.2.2.2.2.2.1 q.2.2.2.2.2.2.1 q.2.2.2.2.2.2.2
theorem bnd8_inv {α1 α2 α3 α4 α5 α6 α7 α8 γ : Type} {o : Option (α1 × α2 × α3 × α4 × α5 × α6 × α7 × α8)} {f : α1 → α2 → α3 → α4 → α5 → α6 → α7 → α8 → Option γ} {y : γ} (h : bnd8 o f = some y) : ∃ a1 a2 a3 a4 a5 a6 a7 a8, o = some (a1, a2, a3, a4, a5, a6, a7, a8) ∧ f a1 a2 a3 a4 a5 a6 a7 a8 = some y := by
  cases o with
  | none => exact nomatch h
  | some q => exact ⟨q.1, q.2.1, q.2.2.1, q.2.2.2.1, q.2.2.2.2.1, q.2.2.2.2.2.1, q.2.2.2.2.2.2.1, q.2.2.2.2.2.2.2, rfl, h⟩
theorem ret1 {α1 : Type} {a1 b1 : α1} (h : some (a1) = some (b1)) : b1 = a1 := by
  exact (Option.some.inj h).symm
theorem ret2 {α1 α2 : Type} {a1 b1 : α1} {a2 b2 : α2} (h : some (a1, a2) = some (b1, b2)) : b1 = a1 ∧ b2 = a2 := by
  injection h with h; simp only [Prod.mk.injEq] at h; exact ⟨h.1.symm, h.2.symm⟩
theorem ret3 {α1 α2 α3 : Type} {a1 b1 : α1} {a2 b2 : α2} {a3 b3 : α3} (h : some (a1, a2, a3) = some (b1, b2, b3)) : b1 = a1 ∧ b2 = a2 ∧ b3 = a3 := by
  injection h with h; simp only [Prod.mk.injEq] at h; exact ⟨h.1.symm, h.2.1.symm, h.2.2.symm⟩
theorem ret4 {α1 α2 α3 α4 : Type} {a1 b1 : α1} {a2 b2 : α2} {a3 b3 : α3} {a4 b4 : α4} (h : some (a1, a2, a3, a4) = some (b1, b2, b3, b4)) : b1 = a1 ∧ b2 = a2 ∧ b3 = a3 ∧ b4 = a4 := by
  injection h with h; simp only [Prod.mk.injEq] at h; exact ⟨h.1.symm, h.2.1.symm, h.2.2.1.symm, h.2.2.2.symm⟩
theorem ret5 {α1 α2 α3 α4 α5 : Type} {a1 b1 : α1} {a2 b2 : α2} {a3 b3 : α3} {a4 b4 : α4} {a5 b5 : α5} (h : some (a1, a2, a3, a4, a5) = some (b1, b2, b3, b4, b5)) : b1 = a1 ∧ b2 = a2 ∧ b3 = a3 ∧ b4 = a4 ∧ b5 = a5 := by
  injection h with h; simp only [Prod.mk.injEq] at h; exact ⟨h.1.symm, h.2.1.symm, h.2.2.1.symm, h.2.2.2.1.symm, h.2.2.2.2.symm⟩
theorem ret6 {α1 α2 α3 α4 α5 α6 : Type} {a1 b1 : α1} {a2 b2 : α2} {a3 b3 : α3} {a4 b4 : α4} {a5 b5 : α5} {a6 b6 : α6} (h : some (a1, a2, a3, a4, a5, a6) = some (b1, b2, b3, b4, b5, b6)) : b1 = a1 ∧ b2 = a2 ∧ b3 = a3 ∧ b4 = a4 ∧ b5 = a5 ∧ b6 = a6 := by
  injection h with h; simp only [Prod.mk.injEq] at h; exact ⟨h.1.symm, h.2.1.symm, h.2.2.1.symm, h.2.2.2.1.symm, h.2.2.2.2.1.symm, h.2.2.2.2.2.symm⟩
theorem ret7 {α1 α2 α3 α4 α5 α6 α7 : Type} {a1 b1 : α1} {a2 b2 : α2} {a3 b3 : α3} {a4 b4 : α4} {a5 b5 : α5} {a6 b6 : α6} {a7 b7 : α7} (h : some (a1, a2, a3, a4, a5, a6, a7) = some (b1, b2, b3, b4, b5, b6, b7)) : b1 = a1 ∧ b2 = a2 ∧ b3 = a3 ∧ b4 = a4 ∧ b5 = a5 ∧ b6 = a6 ∧ b7 = a7 := by
  injection h with h; simp only [Prod.mk.injEq] at h; exact ⟨h.1.symm, h.2.1.symm, h.2.2.1.symm, h.2.2.2.1.symm, h.2.2.2.2.1.symm, h.2.2.2.2.2.1.symm, h.2.2.2.2.2.2.symm⟩
theorem ret8 {α1 α2 α3 α4 α5 α6 α7 α8 : Type} {a1 b1 : α1} {a2 b2 : α2} {a3 b3 : α3} {a4 b4 : α4} {a5 b5 : α5} {a6 b6 : α6} {a7 b7 : α7} {a8 b8 : α8} (h : some (a1, a2, a3, a4, a5, a6, a7, a8) = some (b1, b2, b3, b4, b5, b6, b7, b8)) : b1 = a1 ∧ b2 = a2 ∧ b3 = a3 ∧ b4 = a4 ∧ b5 = a5 ∧ b6 = a6 ∧ b7 = a7 ∧ b8 = a8 := by
  injection h with h; simp only [Prod.mk.injEq] at h; exact ⟨h.1.symm, h.2.1.symm, h.2.2.1.symm, h.2.2.2.1.symm, h.2.2.2.2.1.symm, h.2.2.2.2.2.1.symm, h.2.2.2.2.2.2.1.symm, h.2.2.2.2.2.2.2.symm⟩
/-- an index is looked at -/
def chk {γ : Type} (i : Int32) (n : Nat) (A : Option γ) : Option γ := if i < 0 ∨ n ≤ i.toNatClampNeg then none else A
theorem chk_inv {γ : Type} {i : Int32} {n : Nat} {A : Option γ} {y : γ} (h : chk i n A = some y) : vp_in i n ∧ A = some y := by
  unfold chk at h
  by_cases hc : i < 0 ∨ n ≤ i.toNatClampNeg
  · rw [if_pos hc] at h; cases h
  · rw [if_neg hc] at h; exact ⟨hc, h⟩
/-- a divisor is looked at -/
def dchI {γ : Type} (d : Int32) (A : Option γ) : Option γ := if d = 0 then none else A
theorem dchI_inv {γ : Type} {d : Int32} {A : Option γ} {y : γ} (h : dchI d A = some y) : ¬ d = 0 ∧ A = some y := by
  unfold dchI at h
  by_cases hc : d = 0
  · rw [if_pos hc] at h; cases h
  · rw [if_neg hc] at h; exact ⟨hc, h⟩
def dchL {γ : Type} (d : Int64) (A : Option γ) : Option γ := if d = 0 then none else A
theorem dchL_inv {γ : Type} {d : Int64} {A : Option γ} {y : γ} (h : dchL d A = some y) : ¬ d = 0 ∧ A = some y := by
  unfold dchL at h
  by_cases hc : d = 0
  · rw [if_pos hc] at h; cases h
  · rw [if_neg hc] at h; exact ⟨hc, h⟩
/-- a boolean is looked at -/
def zch {γ : Type} (r : Int32) (A : Option γ) : Option γ := if r = 0 ∨ r = 1 then A else none
theorem zch_inv {γ : Type} {r : Int32} {A : Option γ} {y : γ} (h : zch r A = some y) : (r = 0 ∨ r = 1) ∧ A = some y := by
  unfold zch at h
  by_cases hc : r = 0 ∨ r = 1
  · rw [if_pos hc] at h; exact ⟨hc, h⟩
  · rw [if_neg hc] at h; cases h
/-- a loop: at most so many times -/
def fuel {α : Type} (z : α) (F : α → α) : Nat → α
  | 0 => z
  | n + 1 => F (fuel z F n)
def FU : Nat := 5000
theorem fx_lit {i : Int32} {n : Nat} (h : decide (¬ (i < 0 ∨ n ≤ i.toNatClampNeg)) = true) : vp_in i n := (of_decide_eq_true h : ¬ (i < 0 ∨ n ≤ i.toNatClampNeg))
theorem fx_zn {r : Int32} (h : r = 0 ∨ r = 1) : narrow .boolean (.int r) = .int r := by
  rcases h with e | e <;> rw [e] <;> rfl
theorem fx_toInt_ne {x k : Int32} (h : ¬ x = k) : x.toInt ≠ k.toInt := fun e => h (Int32.toInt_inj.mp e)
/-! ### worlds whose cells stay in their places -/
def setAll : va_W → List Nat → va_W → va_W
  | ws, [], _ => ws
  | ws, _ :: _, [] => ws
  | ws, i :: is, c :: cs => setAll (ws.set i c) is cs
theorem setAll_get : ∀ (is : List Nat) (cs ws : va_W) (k : Nat) (q : Nat × va_E), (setAll ws is cs)[k]? = some q → (∃ j : Nat, cs[j]? = some q) ∨ (ws[k]? = some q ∧ (is.length ≤ cs.length → k ∉ is))
  | [], cs, ws, k, q, h => Or.inr ⟨by cases cs <;> exact h, fun _ => List.not_mem_nil⟩
  | i :: is, [], ws, k, q, h => Or.inr ⟨h, fun hl => absurd hl (by simp)⟩
  | i :: is, c :: cs, ws, k, q, h => by
    rcases setAll_get is cs (ws.set i c) k q h with ⟨j, hj⟩ | ⟨h1, h2⟩
    · exact Or.inl ⟨j + 1, by rw [List.getElem?_cons_succ]; exact hj⟩
    · by_cases hk : i = k
      · subst hk
        rw [List.getElem?_set] at h1
        simp only [if_true] at h1
        by_cases hl : i < ws.length
        · rw [if_pos hl] at h1
          exact Or.inl ⟨0, by rw [List.getElem?_cons_zero]; exact h1⟩
        · rw [if_neg hl] at h1; cases h1
      · rw [List.getElem?_set, if_neg hk] at h1
        refine Or.inr ⟨h1, fun hl hm => ?_⟩
        rcases List.mem_cons.mp hm with e | e
        · exact hk e.symm
        · exact h2 (by simpa using hl) e
theorem setAll_fst : ∀ (is : List Nat) (cs ws wc : va_W), is.map (fun i => ws[i]?) = wc.map some → va_nd is = true → cs.map (·.1) = wc.map (·.1) → (setAll ws is cs).map (·.1) = ws.map (·.1)
  | [], cs, ws, wc, _, _, _ => by cases cs <;> rfl
  | i :: is, [], ws, wc, _, _, _ => rfl
  | i :: is, c :: cs, ws, [], h, _, _ => by simp at h
  | i :: is, c :: cs, ws, w :: wc, h, hn, ha => by
    simp only [List.map_cons, List.cons.injEq] at h ha
    simp only [va_nd, Bool.and_eq_true, decide_eq_true_eq] at hn
    have hm : is.map (fun j => (ws.set i c)[j]?) = wc.map some := by
      rw [← h.2]
      apply List.map_congr_left
      intro j hj
      rw [List.getElem?_set, if_neg (fun e : i = j => hn.1 (e ▸ hj))]
    show (setAll (ws.set i c) is cs).map (·.1) = _
    rw [setAll_fst is cs (ws.set i c) wc hm hn.2 ha.2, List.map_set]
    apply List.ext_getElem?
    intro k
    rw [List.getElem?_set]
    by_cases hk : i = k
    · subst hk
      simp only [if_true, List.length_map]
      have hl : i < ws.length := by
        rcases Nat.lt_or_ge i ws.length with q | q
        · exact q
        · rw [List.getElem?_eq_none q] at h; exact absurd h.1 (by simp)
      rw [if_pos hl, List.getElem?_map, h.1, ha.1]
      rfl
    · rw [if_neg hk]
/-- a callee's cells among the caller's, and what comes back in their places -/
def JN (is : List Nat) (wst wc w1 wst' : va_W) : Prop := va_nd is = true ∧ is.map (fun i => wst[i]?) = wc.map some ∧ (∀ (k : Nat) (q : Nat × va_E), wst'[k]? = some q → (∃ j : Nat, w1[j]? = some q) ∨ (wst[k]? = some q ∧ k ∉ is)) ∧ wst'.map (·.1) = wst.map (·.1)
theorem JN.sub {wst wc w1 wst' : va_W} (is : List Nat) (hn : va_nd is = true) (hC : is.map (fun i => wst[i]?) = wc.map some) (hs : setAll wst is w1 = wst') (ha : w1.map (·.1) = wc.map (·.1)) : JN is wst wc w1 wst' := by
  subst hs
  have hl1 : is.length = wc.length := by have := congrArg List.length hC; simpa using this
  have hl2 : w1.length = wc.length := by have := congrArg List.length ha; simpa using this
  refine ⟨hn, hC, fun k q hk => ?_, setAll_fst is w1 wst wc hC hn ha⟩
  rcases setAll_get is w1 wst k q hk with h | ⟨h1, h2⟩
  · exact Or.inl h
  · exact Or.inr ⟨h1, h2 (by omega)⟩
theorem JN.ro {wst wc : va_W} (is : List Nat) (hn : va_nd is = true) (hC : is.map (fun i => wst[i]?) = wc.map some) : JN is wst wc wc wst := by
  refine ⟨hn, hC, fun k q hk => ?_, rfl⟩
  by_cases hm : k ∈ is
  · obtain ⟨j, hj⟩ := List.getElem?_of_mem hm
    have h1 : (is.map (fun i => wst[i]?))[j]? = some (some q) := by rw [List.getElem?_map, hj]; exact congrArg some hk
    rw [hC, List.getElem?_map] at h1
    cases hw : wc[j]? with
    | none => rw [hw] at h1; cases h1
    | some x => rw [hw] at h1; exact Or.inl ⟨j, by rw [hw]; exact Option.some.inj h1⟩
  · exact Or.inr ⟨hk, hm⟩
theorem va_nd_range (n : Nat) : va_nd (List.range n) = true := by
  have key : ∀ l : List Nat, l.Nodup → va_nd l = true := by
    intro l
    induction l with
    | nil => intro _; rfl
    | cons a l ih =>
      intro h
      rw [List.nodup_cons] at h
      simp only [va_nd, Bool.and_eq_true, decide_eq_true_eq]
      exact ⟨h.1, ih h.2⟩
  exact key _ List.nodup_range
theorem JN.whole {wst w1 : va_W} (ha : w1.map (·.1) = wst.map (·.1)) : JN (List.range wst.length) wst wst w1 w1 := by
  refine ⟨va_nd_range _, ?_, fun k q hk => Or.inl ⟨k, hk⟩, ha⟩
  apply List.ext_getElem?
  intro k
  rw [List.getElem?_map, List.getElem?_map]
  by_cases hl : k < wst.length
  · rw [List.getElem?_range hl, List.getElem?_eq_getElem hl]
    simp
  · rw [List.getElem?_eq_none (by simpa using hl), List.getElem?_eq_none (by omega)]
    rfl
/-- what stands behind a call -/
theorem JN.join {is : List Nat} {wst wc w1 wst' : va_W} (J : JN is wst wc w1 wst') {D : va_G} {cl : List vw_C} {A : Nat → Prop} {H H1 : Heap} (hP : va_P D cl wst H) (hD : va_D A wst) (hP1 : va_P D cl w1 H1) (hk : ∀ q : Nat, q < H.size → ¬ va_A wc H.size q → H1[q]? = H[q]?) : va_P D cl wst' H1 ∧ va_D A wst' := by
  obtain ⟨hn, hC, hx, ha⟩ := J
  have hfst : ∀ (k : Nat) (q : Nat × va_E), wst'[k]? = some q → ∃ e : va_E, wst[k]? = some (q.1, e) := by
    intro k q hq
    have h1 : (wst'.map (·.1))[k]? = some q.1 := by rw [List.getElem?_map, hq]; rfl
    rw [ha, List.getElem?_map] at h1
    cases hw : wst[k]? with
    | none => rw [hw] at h1; cases h1
    | some x => rw [hw] at h1; exact ⟨x.2, by rw [← Option.some.inj h1]⟩
  refine ⟨fun k q hq => ?_, fun i j x y hi hj hxy => ?_, fun k q hq => ?_⟩
  · rcases hx k q hq with ⟨j, hj⟩ | ⟨h1, h2⟩
    · exact hP1 j q hj
    · refine (hP k q h1).kept (hk q.1 (hP k q h1).lt (fun h => ?_))
      rcases h with ⟨j, e, he⟩ | h
      · have h3 : (is.map (fun i => wst[i]?))[j]? = some (some (q.1, e)) := by rw [hC, List.getElem?_map, he]; rfl
        rw [List.getElem?_map] at h3
        cases hi : is[j]? with
        | none => rw [hi] at h3; cases h3
        | some i =>
          rw [hi] at h3
          have := hD.1 k i q (q.1, e) h1 (Option.some.inj h3) rfl
          exact h2 (this ▸ List.mem_of_getElem? hi)
      · exact absurd (hP k q h1).lt (Nat.not_lt.mpr h)
  · obtain ⟨e1, h1⟩ := hfst i x hi
    obtain ⟨e2, h2⟩ := hfst j y hj
    exact hD.1 i j _ _ h1 h2 hxy
  · obtain ⟨e1, h1⟩ := hfst k q hq
    exact hD.2 k (q.1, e1) h1
/-! ### contracts -/
def mPre (D : va_G) (cI : ClassId) (av : List Value) (wc : va_W) (sz : Nat) : Array Value → State → Prop := va_Pc av (fun U => U.heap.size = sz ∧ va_P D vwCl wc U.heap ∧ va_K D vwCl [(cI, .int)] U ∧ va_D (fun _ => True) wc)
theorem mPre_blind {D : va_G} {cI : ClassId} {av : List Value} {wc : va_W} {sz : Nat} : FrameBlind (mPre D cI av wc sz) := by
  intro a U g mk q
  obtain ⟨q0, q1, qP, qK, qD⟩ := q
  exact ⟨q0, q1, qP, va_K.moved (u := U) (U := U.calling g mk a) (Vm.Alike.refl U.vm) qK, qD⟩
abbrev mQi (D : va_G) (wc w1 : va_W) (sz : Nat) (r : Int32) : Array Value → State → Outcome → State → Prop := va_Qi (fun (r2 : Int32) (_ : Unit) => r2 = r) (fun _ t => va_P D vwCl w1 t.heap) (va_A wc sz)
abbrev mQl (D : va_G) (wc w1 : va_W) (sz : Nat) (r : Int64) : Array Value → State → Outcome → State → Prop := va_Ql (fun (r2 : Int64) (_ : Unit) => r2 = r) (fun _ t => va_P D vwCl w1 t.heap) (va_A wc sz)
abbrev mQv (D : va_G) (wc w1 : va_W) (sz : Nat) : Array Value → State → Outcome → State → Prop := va_Qv (fun (_ : Unit) => True) (fun _ t => va_P D vwCl w1 t.heap) (va_A wc sz)
def mI (l : Launch) (y : MethodName) (ws : List Cond) (rm : Room) (D : va_G) (cI : ClassId) (av : List Value) (wc w1 : va_W) (r : Int32) : Prop := ∀ sz : Nat, Met l y ws rm (mPre D cI av wc sz) (mQi D wc w1 sz r) 0 0 (va_A wc sz)
def mL (l : Launch) (y : MethodName) (ws : List Cond) (rm : Room) (D : va_G) (cI : ClassId) (av : List Value) (wc w1 : va_W) (r : Int64) : Prop := ∀ sz : Nat, Met l y ws rm (mPre D cI av wc sz) (mQl D wc w1 sz r) 0 0 (va_A wc sz)
def mV (l : Launch) (y : MethodName) (ws : List Cond) (rm : Room) (D : va_G) (cI : ClassId) (av : List Value) (wc w1 : va_W) : Prop := ∀ sz : Nat, Met l y ws rm (mPre D cI av wc sz) (mQv D wc w1 sz) 0 0 (va_A wc sz)
/-- a contract's start: what its walk begins with -/
theorem mStart {l : Launch} {y : MethodName} {ws ws' : List Cond} {rm : Room} {D : va_G} {cI : ClassId} {av : List Value} {wc : va_W} {sz : Nat} {Qc : Array Value → State → Outcome → State → Prop} {cc : ByteArray} {maxL : Nat} {ret : Option FieldType} {own : String}
    (hy : plainName y.cls = true) (hw : ws = Cond.code y cc maxL ret :: ws') (ho : y.cls = own) (hn : (lg_sl av).length ≤ maxL) {lv : List (Nat × Value)} (hlv : lv_args 0 av = lv)
    (body : ∀ (p : Program) (e : Env) (s : State) (m : MethodId) (args : Array Value) (below : List Frame) (meth : Method) (c : Code) (A : Nat → Prop) (ls : Array Slot) (Q : State → Prop) (H : Heap) (locs : List Loc), CallFix p m c cc maxL s args ws own → meth.sig.returnType = ret → meth.locks = false → va_K D vwCl [(cI, .int)] s → va_P D vwCl wc H → va_D A wc → va_S A s.heap H locs → (∀ q, s.heap.size ≤ q → A q) → A = va_A wc sz → lv_has ls maxL lv → Q = MQ below Qc args s 0 0 (va_A wc sz) →
      W p l e rm s m args below meth c H locs 0 0 Q (F0 m 0 ls [])) : Met l y ws rm (mPre D cI av wc sz) Qc 0 0 (va_A wc sz) := by
  refine Met.ofW (cc := cc) (maxL := maxL) (ret := ret) hy hw ?_
  intro p e s m args below meth c s₁ B hml hv
  obtain ⟨rfl, hsz, hP, hK, hD0⟩ := hv
  subst hsz
  subst ho
  subst hlv
  have hl := lv_entry av (n := maxL) hn
  rw [lg_entry_eq]
  exact body p e s m _ below meth c _ _ _ _ _ ⟨B.exec, B.bytes, hml, findClass_of_methodNamed B.named, atoms_spec (ws := ws) B.pre⟩ B.returns B.notSynchronized hK hP hD0.self va_S.rf (fun q h => Or.inr h) rfl hl rfl
section FX
variable {p : Program} {l : Launch} {e : Env} {R : Room} {s : State} {m : MethodId} {args : Array Value} {below : List Frame} {meth : Method} {c : Code} {H : Heap} {locs : List Loc} {cells slots : Nat} {Q : State → Prop}
theorem rI {cc : ByteArray} {D : va_G} {wc w1 : va_W} {sz : Nat} {A : Nat → Prop} {v r : Int32} {ty : FieldType} (hQ : Q = MQ below (mQi D wc w1 sz r) args s 0 0 (va_A wc sz)) (hx : p.tables.exec = Jvm.exec) (hb : c.code = cc) (hr : meth.sig.returnType = some ty) (hlocks : meth.locks = false) (hA : A = va_A wc sz) (hP : va_P D vwCl w1 H) (hS : va_S A s.heap H locs) (hn : narrow ty (.int v) = .int v) (hv : v = r) {pc : Nat} {ls : Array Slot} (hdg : decode cc pc = .ok (.ireturn, 1)) :
    W p l e R s m args below meth c H locs 0 0 Q (F0 m pc ls [.int v]) := by
  subst hA
  subst hQ
  exact W.zret hx hb hr hn (fun t ht hW => ⟨⟨v, (), rfl, hv, by show va_P D vwCl w1 t.heap; rw [ht]; exact hP⟩, hS.F ht⟩) hS.2.2 hdg hlocks
theorem rL {cc : ByteArray} {D : va_G} {wc w1 : va_W} {sz : Nat} {A : Nat → Prop} {v r : Int64} (hQ : Q = MQ below (mQl D wc w1 sz r) args s 0 0 (va_A wc sz)) (hx : p.tables.exec = Jvm.exec) (hb : c.code = cc) (hr : meth.sig.returnType = some .long) (hlocks : meth.locks = false) (hA : A = va_A wc sz) (hP : va_P D vwCl w1 H) (hS : va_S A s.heap H locs) (hv : v = r) {pc : Nat} {ls : Array Slot} (hdg : decode cc pc = .ok (.lreturn, 1)) :
    W p l e R s m args below meth c H locs 0 0 Q (F0 m pc ls [.long v]) := by
  subst hA
  subst hQ
  exact W.lret hx hb hr (fun t ht hW => ⟨⟨v, (), rfl, hv, by show va_P D vwCl w1 t.heap; rw [ht]; exact hP⟩, hS.F ht⟩) hS.2.2 hdg hlocks
theorem rV {cc : ByteArray} {D : va_G} {wc w1 : va_W} {sz : Nat} {A : Nat → Prop} (hQ : Q = MQ below (mQv D wc w1 sz) args s 0 0 (va_A wc sz)) (hx : p.tables.exec = Jvm.exec) (hb : c.code = cc) (hr : meth.sig.returnType = none) (hlocks : meth.locks = false) (hA : A = va_A wc sz) (hP : va_P D vwCl w1 H) (hS : va_S A s.heap H locs) {pc : Nat} {ls : Array Slot} (hdg : decode cc pc = .ok (.return_, 1)) :
    W p l e R s m args below meth c H locs 0 0 Q (F0 m pc ls []) := by
  subst hA
  subst hQ
  exact W.vret hx hb hr (fun t ht hW => ⟨⟨(), rfl, trivial, by show va_P D vwCl w1 t.heap; rw [ht]; exact hP⟩, hS.F ht⟩) hS.2.2 hdg hlocks
/-- a private or own method that is called on a cell of the caller's world: int -/
theorem kVI {y : MethodName} {bytes cc : ByteArray} {maxL nL n index : Nat} {ret : Option FieldType} {ws ws' Ts : List Cond} {rm : Room} {own C : String} {b : Addr} {As rest st0 : List Value} {D : va_G} {cI : ClassId} {A : Nat → Prop} {is : List Nat} {wst wc w1 wst' : va_W} {r : Int32} {pc : Nat} {ls : Array Slot} {lv : List (Nat × Value)}
    (S : CallFix p m c cc nL s args Ts own) (hl : lv_has ls nL lv) (hK : va_K D vwCl [(cI, .int)] s) (hP : va_P D vwCl wst H) (hD : va_D A wst) (hS : va_S A s.heap H locs) (hA : ∀ q, s.heap.size ≤ q → A q)
    (hM : mI l y ws rm D cI (.ref b :: As) wc w1 r) (hG : GoodIn Ts (wsV own index C y ws)) (hw : ws = Cond.code y bytes maxL ret :: ws') (hdg : decode cc pc = .ok (.invokevirtual index, 3))
    (hd : y.cls = C ∧ y.cls ≠ "java/lang/invoke/MethodHandle" ∧ y.cls ≠ "java/lang/invoke/VarHandle" ∧ (parseMethodDescriptor y.desc).map (fun d => d.parameters.length) = some n)
    (hR : (rm.cells = 0 ∧ rm.slots = 0) ∧ (rm.frames + 1 ≤ R.frames ∧ 8 + (maxL + 11) + rm.locals ≤ R.locals) ∧ cells ≤ R.cells ∧ slots ≤ R.slots) (J : JN is wst wc w1 wst')
    (q0 : Nat) {ci : Nat} {q : vw_C} {fs : List Value} (he : wst[q0]? = some (b, .inr (ci, fs))) (hc : vwCl[ci]? = some q ∧ q.1 = C) (hst : st0 = As.reverse ++ .ref b :: rest) (hn : As.length = n) (hr8 : (rest.map fun v => v.category).sum ≤ 8)
    (kk : ∀ (H1 : Heap) (locs1 : List Loc), va_P D vwCl wst' H1 → va_D A wst' → va_S A s.heap H1 locs1 → W p l e R s m args below meth c H1 locs1 cells slots Q (F0 m (pc + 3) ls (.int r :: rest))) : W p l e R s m args below meth c H locs cells slots Q (F0 m pc ls st0) := by
  obtain ⟨hcq, rfl⟩ := hc
  have hDc := hD.sub is J.1 J.2.1
  have hF := va_free hD hS hA is J.2.1
  have hPc : va_P D vwCl wc H := hP.sub is (by
    have := congrArg (List.filterMap id) J.2.1
    simpa [List.filterMap_map] using this)
  refine va_calli (va_runV (As := As) (rest := rest) S (hM H.size) (cwV n S.2.2.2.2 hG hw hR.1.1 hR.1.2 hd hR.2.1) ⟨mPre_blind, va_recv hK hP hcq he, fun U hU hW => ⟨rfl, by rw [hU], by rw [hU]; exact hPc, va_K.moved hW.alike hK, hDc.weaken (fun _ _ _ _ => trivial)⟩⟩ rfl hn hl.1 hst (lv_room hr8) hdg ⟨hR.2.2.1, hR.2.2.2⟩) hS (fun q _ h => hF q h) hF (fun r2 u t H1 locs1 ht hvm hw2 hB hz1 hk1 hS1 => ?_)
  subst hw2
  rw [ht] at hB
  obtain ⟨hP2, hD2⟩ := J.join hP hD hB hk1
  exact kk H1 locs1 hP2 hD2 hS1
theorem kVL {y : MethodName} {bytes cc : ByteArray} {maxL nL n index : Nat} {ret : Option FieldType} {ws ws' Ts : List Cond} {rm : Room} {own C : String} {b : Addr} {As rest st0 : List Value} {D : va_G} {cI : ClassId} {A : Nat → Prop} {is : List Nat} {wst wc w1 wst' : va_W} {r : Int64} {pc : Nat} {ls : Array Slot} {lv : List (Nat × Value)}
    (S : CallFix p m c cc nL s args Ts own) (hl : lv_has ls nL lv) (hK : va_K D vwCl [(cI, .int)] s) (hP : va_P D vwCl wst H) (hD : va_D A wst) (hS : va_S A s.heap H locs) (hA : ∀ q, s.heap.size ≤ q → A q)
    (hM : mL l y ws rm D cI (.ref b :: As) wc w1 r) (hG : GoodIn Ts (wsV own index C y ws)) (hw : ws = Cond.code y bytes maxL ret :: ws') (hdg : decode cc pc = .ok (.invokevirtual index, 3))
    (hd : y.cls = C ∧ y.cls ≠ "java/lang/invoke/MethodHandle" ∧ y.cls ≠ "java/lang/invoke/VarHandle" ∧ (parseMethodDescriptor y.desc).map (fun d => d.parameters.length) = some n)
    (hR : (rm.cells = 0 ∧ rm.slots = 0) ∧ (rm.frames + 1 ≤ R.frames ∧ 8 + (maxL + 11) + rm.locals ≤ R.locals) ∧ cells ≤ R.cells ∧ slots ≤ R.slots) (J : JN is wst wc w1 wst')
    (q0 : Nat) {ci : Nat} {q : vw_C} {fs : List Value} (he : wst[q0]? = some (b, .inr (ci, fs))) (hc : vwCl[ci]? = some q ∧ q.1 = C) (hst : st0 = As.reverse ++ .ref b :: rest) (hn : As.length = n) (hr8 : (rest.map fun v => v.category).sum ≤ 8)
    (kk : ∀ (H1 : Heap) (locs1 : List Loc), va_P D vwCl wst' H1 → va_D A wst' → va_S A s.heap H1 locs1 → W p l e R s m args below meth c H1 locs1 cells slots Q (F0 m (pc + 3) ls (.long r :: rest))) : W p l e R s m args below meth c H locs cells slots Q (F0 m pc ls st0) := by
  obtain ⟨hcq, rfl⟩ := hc
  have hDc := hD.sub is J.1 J.2.1
  have hF := va_free hD hS hA is J.2.1
  have hPc : va_P D vwCl wc H := hP.sub is (by
    have := congrArg (List.filterMap id) J.2.1
    simpa [List.filterMap_map] using this)
  refine va_calll (va_runV (As := As) (rest := rest) S (hM H.size) (cwV n S.2.2.2.2 hG hw hR.1.1 hR.1.2 hd hR.2.1) ⟨mPre_blind, va_recv hK hP hcq he, fun U hU hW => ⟨rfl, by rw [hU], by rw [hU]; exact hPc, va_K.moved hW.alike hK, hDc.weaken (fun _ _ _ _ => trivial)⟩⟩ rfl hn hl.1 hst (lv_room hr8) hdg ⟨hR.2.2.1, hR.2.2.2⟩) hS (fun q _ h => hF q h) hF (fun r2 u t H1 locs1 ht hvm hw2 hB hz1 hk1 hS1 => ?_)
  subst hw2
  rw [ht] at hB
  obtain ⟨hP2, hD2⟩ := J.join hP hD hB hk1
  exact kk H1 locs1 hP2 hD2 hS1
theorem kVV {y : MethodName} {bytes cc : ByteArray} {maxL nL n index : Nat} {ret : Option FieldType} {ws ws' Ts : List Cond} {rm : Room} {own C : String} {b : Addr} {As rest st0 : List Value} {D : va_G} {cI : ClassId} {A : Nat → Prop} {is : List Nat} {wst wc w1 wst' : va_W} {pc : Nat} {ls : Array Slot} {lv : List (Nat × Value)}
    (S : CallFix p m c cc nL s args Ts own) (hl : lv_has ls nL lv) (hK : va_K D vwCl [(cI, .int)] s) (hP : va_P D vwCl wst H) (hD : va_D A wst) (hS : va_S A s.heap H locs) (hA : ∀ q, s.heap.size ≤ q → A q)
    (hM : mV l y ws rm D cI (.ref b :: As) wc w1) (hG : GoodIn Ts (wsV own index C y ws)) (hw : ws = Cond.code y bytes maxL ret :: ws') (hdg : decode cc pc = .ok (.invokevirtual index, 3))
    (hd : y.cls = C ∧ y.cls ≠ "java/lang/invoke/MethodHandle" ∧ y.cls ≠ "java/lang/invoke/VarHandle" ∧ (parseMethodDescriptor y.desc).map (fun d => d.parameters.length) = some n)
    (hR : (rm.cells = 0 ∧ rm.slots = 0) ∧ (rm.frames + 1 ≤ R.frames ∧ 8 + (maxL + 11) + rm.locals ≤ R.locals) ∧ cells ≤ R.cells ∧ slots ≤ R.slots) (J : JN is wst wc w1 wst')
    (q0 : Nat) {ci : Nat} {q : vw_C} {fs : List Value} (he : wst[q0]? = some (b, .inr (ci, fs))) (hc : vwCl[ci]? = some q ∧ q.1 = C) (hst : st0 = As.reverse ++ .ref b :: rest) (hn : As.length = n) (hr8 : (rest.map fun v => v.category).sum ≤ 8)
    (kk : ∀ (H1 : Heap) (locs1 : List Loc), va_P D vwCl wst' H1 → va_D A wst' → va_S A s.heap H1 locs1 → W p l e R s m args below meth c H1 locs1 cells slots Q (F0 m (pc + 3) ls rest)) : W p l e R s m args below meth c H locs cells slots Q (F0 m pc ls st0) := by
  obtain ⟨hcq, rfl⟩ := hc
  have hDc := hD.sub is J.1 J.2.1
  have hF := va_free hD hS hA is J.2.1
  have hPc : va_P D vwCl wc H := hP.sub is (by
    have := congrArg (List.filterMap id) J.2.1
    simpa [List.filterMap_map] using this)
  refine va_callv (va_runV (As := As) (rest := rest) S (hM H.size) (cwV n S.2.2.2.2 hG hw hR.1.1 hR.1.2 hd hR.2.1) ⟨mPre_blind, va_recv hK hP hcq he, fun U hU hW => ⟨rfl, by rw [hU], by rw [hU]; exact hPc, va_K.moved hW.alike hK, hDc.weaken (fun _ _ _ _ => trivial)⟩⟩ rfl hn hl.1 hst (lv_room hr8) hdg ⟨hR.2.2.1, hR.2.2.2⟩) hS (fun q _ h => hF q h) hF (fun u t H1 locs1 ht hvm hw2 hB hz1 hk1 hS1 => ?_)
  rw [ht] at hB
  obtain ⟨hP2, hD2⟩ := J.join hP hD hB hk1
  exact kk H1 locs1 hP2 hD2 hS1
/-- static methods -/
theorem kSI {y : MethodName} {bytes cc : ByteArray} {maxL nL n index : Nat} {ret : Option FieldType} {ws ws' Ts : List Cond} {rm : Room} {own : String} {As rest st0 : List Value} {D : va_G} {cI : ClassId} {A : Nat → Prop} {is : List Nat} {wst wc w1 wst' : va_W} {r : Int32} {pc : Nat} {ls : Array Slot} {lv : List (Nat × Value)}
    (S : CallFix p m c cc nL s args Ts own) (hl : lv_has ls nL lv) (hK : va_K D vwCl [(cI, .int)] s) (hP : va_P D vwCl wst H) (hD : va_D A wst) (hS : va_S A s.heap H locs) (hA : ∀ q, s.heap.size ≤ q → A q)
    (hM : mI l y ws rm D cI As wc w1 r) (hG : GoodIn Ts (va_wsS own index y ws)) (hw : ws = Cond.code y bytes maxL ret :: ws') (hdg : decode cc pc = .ok (.invokestatic index, 3))
    (hd : y.cls ≠ "java/lang/invoke/MethodHandle" ∧ y.cls ≠ "java/lang/invoke/VarHandle" ∧ (parseMethodDescriptor y.desc).map (fun d => d.parameters.length) = some n)
    (hR : (rm.cells = 0 ∧ rm.slots = 0) ∧ (rm.frames + 1 ≤ R.frames ∧ 8 + (maxL + 11) + rm.locals ≤ R.locals) ∧ cells ≤ R.cells ∧ slots ≤ R.slots) (J : JN is wst wc w1 wst')
    (hst : st0 = As.reverse ++ rest) (hn : As.length = n) (hr8 : (rest.map fun v => v.category).sum ≤ 8)
    (kk : ∀ (H1 : Heap) (locs1 : List Loc), va_P D vwCl wst' H1 → va_D A wst' → va_S A s.heap H1 locs1 → W p l e R s m args below meth c H1 locs1 cells slots Q (F0 m (pc + 3) ls (.int r :: rest))) : W p l e R s m args below meth c H locs cells slots Q (F0 m pc ls st0) := by
  have hDc := hD.sub is J.1 J.2.1
  have hF := va_free hD hS hA is J.2.1
  have hPc : va_P D vwCl wc H := hP.sub is (by
    have := congrArg (List.filterMap id) J.2.1
    simpa [List.filterMap_map] using this)
  refine va_calli (va_runS (As := As) (rest := rest) S (hM H.size) (va_cwS n S.2.2.2.2 hG hw hR.1.1 hR.1.2 hd hR.2.1) ⟨mPre_blind, fun U hU hW => ⟨rfl, by rw [hU], by rw [hU]; exact hPc, va_K.moved hW.alike hK, hDc.weaken (fun _ _ _ _ => trivial)⟩⟩ rfl hn hl.1 hst (lv_room hr8) hdg ⟨hR.2.2.1, hR.2.2.2⟩) hS (fun q _ h => hF q h) hF (fun r2 u t H1 locs1 ht hvm hw2 hB hz1 hk1 hS1 => ?_)
  subst hw2
  rw [ht] at hB
  obtain ⟨hP2, hD2⟩ := J.join hP hD hB hk1
  exact kk H1 locs1 hP2 hD2 hS1
theorem kSL {y : MethodName} {bytes cc : ByteArray} {maxL nL n index : Nat} {ret : Option FieldType} {ws ws' Ts : List Cond} {rm : Room} {own : String} {As rest st0 : List Value} {D : va_G} {cI : ClassId} {A : Nat → Prop} {is : List Nat} {wst wc w1 wst' : va_W} {r : Int64} {pc : Nat} {ls : Array Slot} {lv : List (Nat × Value)}
    (S : CallFix p m c cc nL s args Ts own) (hl : lv_has ls nL lv) (hK : va_K D vwCl [(cI, .int)] s) (hP : va_P D vwCl wst H) (hD : va_D A wst) (hS : va_S A s.heap H locs) (hA : ∀ q, s.heap.size ≤ q → A q)
    (hM : mL l y ws rm D cI As wc w1 r) (hG : GoodIn Ts (va_wsS own index y ws)) (hw : ws = Cond.code y bytes maxL ret :: ws') (hdg : decode cc pc = .ok (.invokestatic index, 3))
    (hd : y.cls ≠ "java/lang/invoke/MethodHandle" ∧ y.cls ≠ "java/lang/invoke/VarHandle" ∧ (parseMethodDescriptor y.desc).map (fun d => d.parameters.length) = some n)
    (hR : (rm.cells = 0 ∧ rm.slots = 0) ∧ (rm.frames + 1 ≤ R.frames ∧ 8 + (maxL + 11) + rm.locals ≤ R.locals) ∧ cells ≤ R.cells ∧ slots ≤ R.slots) (J : JN is wst wc w1 wst')
    (hst : st0 = As.reverse ++ rest) (hn : As.length = n) (hr8 : (rest.map fun v => v.category).sum ≤ 8)
    (kk : ∀ (H1 : Heap) (locs1 : List Loc), va_P D vwCl wst' H1 → va_D A wst' → va_S A s.heap H1 locs1 → W p l e R s m args below meth c H1 locs1 cells slots Q (F0 m (pc + 3) ls (.long r :: rest))) : W p l e R s m args below meth c H locs cells slots Q (F0 m pc ls st0) := by
  have hDc := hD.sub is J.1 J.2.1
  have hF := va_free hD hS hA is J.2.1
  have hPc : va_P D vwCl wc H := hP.sub is (by
    have := congrArg (List.filterMap id) J.2.1
    simpa [List.filterMap_map] using this)
  refine va_calll (va_runS (As := As) (rest := rest) S (hM H.size) (va_cwS n S.2.2.2.2 hG hw hR.1.1 hR.1.2 hd hR.2.1) ⟨mPre_blind, fun U hU hW => ⟨rfl, by rw [hU], by rw [hU]; exact hPc, va_K.moved hW.alike hK, hDc.weaken (fun _ _ _ _ => trivial)⟩⟩ rfl hn hl.1 hst (lv_room hr8) hdg ⟨hR.2.2.1, hR.2.2.2⟩) hS (fun q _ h => hF q h) hF (fun r2 u t H1 locs1 ht hvm hw2 hB hz1 hk1 hS1 => ?_)
  subst hw2
  rw [ht] at hB
  obtain ⟨hP2, hD2⟩ := J.join hP hD hB hk1
  exact kk H1 locs1 hP2 hD2 hS1
theorem kSV {y : MethodName} {bytes cc : ByteArray} {maxL nL n index : Nat} {ret : Option FieldType} {ws ws' Ts : List Cond} {rm : Room} {own : String} {As rest st0 : List Value} {D : va_G} {cI : ClassId} {A : Nat → Prop} {is : List Nat} {wst wc w1 wst' : va_W} {pc : Nat} {ls : Array Slot} {lv : List (Nat × Value)}
    (S : CallFix p m c cc nL s args Ts own) (hl : lv_has ls nL lv) (hK : va_K D vwCl [(cI, .int)] s) (hP : va_P D vwCl wst H) (hD : va_D A wst) (hS : va_S A s.heap H locs) (hA : ∀ q, s.heap.size ≤ q → A q)
    (hM : mV l y ws rm D cI As wc w1) (hG : GoodIn Ts (va_wsS own index y ws)) (hw : ws = Cond.code y bytes maxL ret :: ws') (hdg : decode cc pc = .ok (.invokestatic index, 3))
    (hd : y.cls ≠ "java/lang/invoke/MethodHandle" ∧ y.cls ≠ "java/lang/invoke/VarHandle" ∧ (parseMethodDescriptor y.desc).map (fun d => d.parameters.length) = some n)
    (hR : (rm.cells = 0 ∧ rm.slots = 0) ∧ (rm.frames + 1 ≤ R.frames ∧ 8 + (maxL + 11) + rm.locals ≤ R.locals) ∧ cells ≤ R.cells ∧ slots ≤ R.slots) (J : JN is wst wc w1 wst')
    (hst : st0 = As.reverse ++ rest) (hn : As.length = n) (hr8 : (rest.map fun v => v.category).sum ≤ 8)
    (kk : ∀ (H1 : Heap) (locs1 : List Loc), va_P D vwCl wst' H1 → va_D A wst' → va_S A s.heap H1 locs1 → W p l e R s m args below meth c H1 locs1 cells slots Q (F0 m (pc + 3) ls rest)) : W p l e R s m args below meth c H locs cells slots Q (F0 m pc ls st0) := by
  have hDc := hD.sub is J.1 J.2.1
  have hF := va_free hD hS hA is J.2.1
  have hPc : va_P D vwCl wc H := hP.sub is (by
    have := congrArg (List.filterMap id) J.2.1
    simpa [List.filterMap_map] using this)
  refine va_callv (va_runS (As := As) (rest := rest) S (hM H.size) (va_cwS n S.2.2.2.2 hG hw hR.1.1 hR.1.2 hd hR.2.1) ⟨mPre_blind, fun U hU hW => ⟨rfl, by rw [hU], by rw [hU]; exact hPc, va_K.moved hW.alike hK, hDc.weaken (fun _ _ _ _ => trivial)⟩⟩ rfl hn hl.1 hst (lv_room hr8) hdg ⟨hR.2.2.1, hR.2.2.2⟩) hS (fun q _ h => hF q h) hF (fun u t H1 locs1 ht hvm hw2 hB hz1 hk1 hS1 => ?_)
  rw [ht] at hB
  obtain ⟨hP2, hD2⟩ := J.join hP hD hB hk1
  exact kk H1 locs1 hP2 hD2 hS1
/-- a read and a write at a written place; a whole row copied -/
theorem ald {cc : ByteArray} {D : va_G} {cl : List vw_C} {tys : List (ClassId × FieldType)} {ws : va_W} {a pc : Nat} {ls : Array Slot} {rest : List Value} (hexec : p.tables.exec = Jvm.exec) (hb : c.code = cc) (hK : va_K D cl tys s) (hP : va_P D cl ws H) (q0 t0 : Nat) {cA : ClassId} {n k : Nat} {f : Nat → Int32} (ha : ws[q0]? = some (a, .inl (cA, n, .inl f))) (ht : tys[t0]? = some (cA, .int)) {i : Int32} (hin : vp_in i n) (hk : i.toNatClampNeg = k) (hdg : decode cc pc = .ok (.iaload, 1))
    (kk : W p l e R s m args below meth c H locs cells slots Q (F0 m (pc + 1) ls (.int (f k) :: rest))) : W p l e R s m args below meth c H locs cells slots Q (F0 m pc ls (.int i :: .ref a :: rest)) := by
  subst hk
  exact va_iald hexec hb hK hP q0 t0 ha ht hin hdg kk
theorem ast {cc : ByteArray} {D : va_G} {cl : List vw_C} {tys : List (ClassId × FieldType)} {ws : va_W} {A : Nat → Prop} {H0 : Heap} {a pc : Nat} {ls : Array Slot} {rest : List Value} (hexec : p.tables.exec = Jvm.exec) (hb : c.code = cc) (hK : va_K D cl tys s) (hP : va_P D cl ws H) (hD : va_D A ws) (hS : va_S A H0 H locs) (q0 t0 : Nat) {cA : ClassId} {n k : Nat} {f : Nat → Int32} (ha : ws[q0]? = some (a, .inl (cA, n, .inl f))) (ht : tys[t0]? = some (cA, .int)) {i : Int32} {x : Int32} (hin : vp_in i n) (hk : i.toNatClampNeg = k) (hdg : decode cc pc = .ok (.iastore, 1))
    (kk : ∀ (H1 : Heap) (locs1 : List Loc), va_P D cl (ws.set q0 (a, .inl (cA, n, .inl (upd f k x)))) H1 → va_D A (ws.set q0 (a, .inl (cA, n, .inl (upd f k x)))) → va_S A H0 H1 locs1 → W p l e R s m args below meth c H1 locs1 cells slots Q (F0 m (pc + 1) ls rest)) : W p l e R s m args below meth c H locs cells slots Q (F0 m pc ls (.int x :: .int i :: .ref a :: rest)) := by
  subst hk
  exact va_iast hexec hb hK hP hD hS q0 t0 ha ht hin hdg kk
theorem fx_cell {cA : ClassId} {n : Nat} {f g : Nat → Int32} (h : ∀ i, i < n → f i = g i) : vp_cell cA (n, .inl f) = vp_cell cA (n, .inl g) := by
  show arrV cA n (fun j => .int (f j)) = arrV cA n (fun j => .int (g j))
  have e : (fun j : Fin n => Value.int (f j.val)) = fun j => Value.int (g j.val) := funext fun j => by rw [h j.val j.isLt]
  unfold arrV
  rw [e]
theorem cpA {cc : ByteArray} {D : va_G} {cl : List vw_C} {tys : List (ClassId × FieldType)} {ws : va_W} {A : Nat → Prop} {H0 : Heap} {a pc : Nat} {ls : Array Slot} {rest : List Value} (hexec : p.tables.exec = Jvm.exec) (hb : c.code = cc) (hml : c.maxLocals = ls.size) {own : String} {index : Nat} (hown : s.vm.findClass own = some m.cls) (hlink : (Cond.methodLink own index arraycopyName).before args s = true) (hnat : (Cond.native arraycopyName).before args s = true) (hstat : (Cond.static arraycopyName).before args s = true) (hini : (Cond.initialized "java/lang/System").before args s = true)
    (hK : va_K D cl tys s) (hP : va_P D cl ws H) (hD : va_D A ws) (hS : va_S A H0 H locs) (q0 q1 t0 : Nat) {a0 : Nat} {c0 : ClassId} {n : Nat} {f g : Nat → Int32} (ha0 : ws[q0]? = some (a0, .inl (c0, n, .inl f))) (ha1 : ws[q1]? = some (a, .inl (c0, n, .inl g))) (ht0 : tys[t0]? = some (c0, .int))
    {sp dp k : Int32} (h1 : sp = 0) (h2 : dp = 0) (h3 : ¬ k < 0) (h4 : k.toNatClampNeg = n) (h0 : (0 : Int32).toNatClampNeg = 0)
    (hframes : 1 ≤ R.frames) (hlocals : (rest.map fun v => v.category).sum + (nativeFrameWords "java/lang/System" "arraycopy" 5 + 11) ≤ R.locals) (hdg : decode cc pc = .ok (.invokestatic index, 3))
    (kk : ∀ (H1 : Heap) (locs1 : List Loc), va_P D cl (ws.set q1 (a, .inl (c0, n, .inl f))) H1 → va_D A (ws.set q1 (a, .inl (c0, n, .inl f))) → va_S A H0 H1 locs1 → W p l e R s m args below meth c H1 locs1 cells slots Q (F0 m (pc + 3) ls rest)) : W p l e R s m args below meth c H locs cells slots Q (F0 m pc ls (.int k :: .int dp :: .ref a :: .int sp :: .ref a0 :: rest)) := by
  subst h1
  subst h2
  have hlt : q1 < ws.length := (List.getElem?_eq_some_iff.mp ha1).1
  refine va_copyi hexec hb hml hown hlink hnat hstat hini hK hP hD hS q0 q1 t0 t0 ha0 ha1 ht0 ht0 rfl (by decide) (by decide) h3 (by rw [h0, h4]; omega) (by rw [h0, h4]; omega) (fun i _ => rfl) hframes hlocals hdg (fun H1 locs1 hP1 hD1 hS1 => ?_)
  refine kk H1 locs1 (fun j q hq => ?_) ?_ hS1
  · by_cases hj : q1 = j
    · subst hj
      rw [List.getElem?_set_self hlt] at hq
      have h5 := hP1 q1 _ (List.getElem?_set_self hlt)
      rw [← Option.some.inj hq]
      have h6 : H1[a]? = some (vp_cell c0 (n, .inl (va_cpy f g (0 : Int32).toNatClampNeg (0 : Int32).toNatClampNeg k.toNatClampNeg))) := h5
      show H1[a]? = some (vp_cell c0 (n, .inl f))
      rw [h6]
      congr 1
      refine fx_cell (fun i hi => ?_)
      rw [h0, h4]
      unfold va_cpy
      rw [if_pos ⟨Nat.zero_le _, by omega⟩]
      congr 1
      omega
    · rw [List.getElem?_set_ne hj] at hq
      exact hP1 j q (by rw [List.getElem?_set_ne hj]; exact hq)
  · exact hD.set ha1
end FX
/-! ### the words for the states -/
abbrev SV : Type := (Nat → Int32) × (Nat → Int32) × (Nat → Int32) × (Nat → Int32) × (Nat → Int32) × (Nat → Int32) × (Nat → Int32) × Int32 × Int32 × Int32
def sSk (v : SV) : Nat → Int32 := v.1
def sMe (v : SV) : Nat → Int32 := v.2.1
def sKi (v : SV) : Nat → Int32 := v.2.2.1
def sFi (v : SV) : Nat → Int32 := v.2.2.2.1
def sOw (v : SV) : Nat → Int32 := v.2.2.2.2.1
def sWe (v : SV) : Nat → Int32 := v.2.2.2.2.2.1
def sBr (v : SV) : Nat → Int32 := v.2.2.2.2.2.2.1
def sPe (v : SV) : Int32 := v.2.2.2.2.2.2.2.1
def sTh (v : SV) : Int32 := v.2.2.2.2.2.2.2.2.1
def sDa (v : SV) : Int32 := v.2.2.2.2.2.2.2.2.2
def sUSk (v : SV) (x : Nat → Int32) : SV := (x, v.2)
def sUMe (v : SV) (x : Nat → Int32) : SV := (v.1, x, v.2.2)
def sUKi (v : SV) (x : Nat → Int32) : SV := (v.1, v.2.1, x, v.2.2.2)
def sUFi (v : SV) (x : Nat → Int32) : SV := (v.1, v.2.1, v.2.2.1, x, v.2.2.2.2)
def sUOw (v : SV) (x : Nat → Int32) : SV := (v.1, v.2.1, v.2.2.1, v.2.2.2.1, x, v.2.2.2.2.2)
def sUWe (v : SV) (x : Nat → Int32) : SV := (v.1, v.2.1, v.2.2.1, v.2.2.2.1, v.2.2.2.2.1, x, v.2.2.2.2.2.2)
def sUBr (v : SV) (x : Nat → Int32) : SV := (v.1, v.2.1, v.2.2.1, v.2.2.2.1, v.2.2.2.2.1, v.2.2.2.2.2.1, x, v.2.2.2.2.2.2.2)
def sUPe (v : SV) (x : Int32) : SV := (v.1, v.2.1, v.2.2.1, v.2.2.2.1, v.2.2.2.2.1, v.2.2.2.2.2.1, v.2.2.2.2.2.2.1, x, v.2.2.2.2.2.2.2.2)
def sUTh (v : SV) (x : Int32) : SV := (v.1, v.2.1, v.2.2.1, v.2.2.2.1, v.2.2.2.2.1, v.2.2.2.2.2.1, v.2.2.2.2.2.2.1, v.2.2.2.2.2.2.2.1, x, v.2.2.2.2.2.2.2.2.2)
def sUDa (v : SV) (x : Int32) : SV := (v.1, v.2.1, v.2.2.1, v.2.2.2.1, v.2.2.2.2.1, v.2.2.2.2.2.1, v.2.2.2.2.2.2.1, v.2.2.2.2.2.2.2.1, v.2.2.2.2.2.2.2.2.1, x)
abbrev cS (h0 h1 h2 h3 h4 h5 h6 h7 : Nat) (cI : ClassId) (v : SV) : va_W := [(h0, .inr (2, [.ref h1, .ref h2, .ref h3, .ref h4, .ref h5, .ref h6, .ref h7, .int (sPe v), .int (sTh v), .int (sDa v)])), (h1, .inl (cI, 6, .inl (sSk v))), (h2, .inl (cI, 6, .inl (sMe v))), (h3, .inl (cI, 9, .inl (sKi v))), (h4, .inl (cI, 9, .inl (sFi v))), (h5, .inl (cI, 9, .inl (sOw v))), (h6, .inl (cI, 9, .inl (sWe v))), (h7, .inl (cI, 9, .inl (sBr v)))]
abbrev cL (h0 h1 : Nat) (cI : ClassId) (sg : Nat → Int32) (sz : Int32) : va_W := [(h0, .inr (0, [.ref h1, .int sz])), (h1, .inl (cI, 96, .inl sg))]
abbrev cG (h0 h1 : Nat) (cI : ClassId) (be : Nat → Int32) : va_W := [(h0, .inr (1, [.ref h1])), (h1, .inl (cI, 640, .inl be))]
abbrev cX (a : Nat → Nat) (cI : ClassId) (no mi ke : SV) (hk : Int32) (sg : Nat → Int32) (sz : Int32) (rn : Nat → Int32) (rs : Int32) (rf be fh oh : Nat → Int32) : va_W := [(a 0, .inr (3, [.ref (a 1), .ref (a 9), .ref (a 17), .int hk, .ref (a 25), .ref (a 27), .int rs, .ref (a 28), .ref (a 29), .ref (a 31), .ref (a 32)])), (a 1, .inr (2, [.ref (a 2), .ref (a 3), .ref (a 4), .ref (a 5), .ref (a 6), .ref (a 7), .ref (a 8), .int (sPe no), .int (sTh no), .int (sDa no)])), (a 2, .inl (cI, 6, .inl (sSk no))), (a 3, .inl (cI, 6, .inl (sMe no))), (a 4, .inl (cI, 9, .inl (sKi no))), (a 5, .inl (cI, 9, .inl (sFi no))), (a 6, .inl (cI, 9, .inl (sOw no))), (a 7, .inl (cI, 9, .inl (sWe no))), (a 8, .inl (cI, 9, .inl (sBr no))), (a 9, .inr (2, [.ref (a 10), .ref (a 11), .ref (a 12), .ref (a 13), .ref (a 14), .ref (a 15), .ref (a 16), .int (sPe mi), .int (sTh mi), .int (sDa mi)])), (a 10, .inl (cI, 6, .inl (sSk mi))), (a 11, .inl (cI, 6, .inl (sMe mi))), (a 12, .inl (cI, 9, .inl (sKi mi))), (a 13, .inl (cI, 9, .inl (sFi mi))), (a 14, .inl (cI, 9, .inl (sOw mi))), (a 15, .inl (cI, 9, .inl (sWe mi))), (a 16, .inl (cI, 9, .inl (sBr mi))), (a 17, .inr (2, [.ref (a 18), .ref (a 19), .ref (a 20), .ref (a 21), .ref (a 22), .ref (a 23), .ref (a 24), .int (sPe ke), .int (sTh ke), .int (sDa ke)])), (a 18, .inl (cI, 6, .inl (sSk ke))), (a 19, .inl (cI, 6, .inl (sMe ke))), (a 20, .inl (cI, 9, .inl (sKi ke))), (a 21, .inl (cI, 9, .inl (sFi ke))), (a 22, .inl (cI, 9, .inl (sOw ke))), (a 23, .inl (cI, 9, .inl (sWe ke))), (a 24, .inl (cI, 9, .inl (sBr ke))), (a 25, .inr (0, [.ref (a 26), .int sz])), (a 26, .inl (cI, 96, .inl sg)), (a 27, .inl (cI, 16, .inl rn)), (a 28, .inl (cI, 7, .inl rf)), (a 29, .inr (1, [.ref (a 30)])), (a 30, .inl (cI, 640, .inl be)), (a 31, .inl (cI, 4, .inl fh)), (a 32, .inl (cI, 4, .inl oh))]
abbrev cM (a : Nat → Nat) (cI : ClassId) (s m im wa : Nat → Int32) (hi : Int32) (le ro re : Nat → Int32) (lm rm pl : Int32) (nu gi bg : Nat → Int32) (bm sd : Int32) : va_W := [(a 0, .inr (4, [.ref (a 1), .ref (a 2), .ref (a 3), .ref (a 4), .int hi, .ref (a 5), .ref (a 6), .ref (a 7), .int lm, .int rm, .int pl, .ref (a 8), .ref (a 9), .ref (a 10), .int bm, .int sd])), (a 1, .inl (cI, 61, .inl s)), (a 2, .inl (cI, 61, .inl m)), (a 3, .inl (cI, 61, .inl im)), (a 4, .inl (cI, 61, .inl wa)), (a 5, .inl (cI, 96, .inl le)), (a 6, .inl (cI, 16, .inl ro)), (a 7, .inl (cI, 7, .inl re)), (a 8, .inl (cI, 3, .inl nu)), (a 9, .inl (cI, 9, .inl gi)), (a 10, .inl (cI, 9, .inl bg))]
