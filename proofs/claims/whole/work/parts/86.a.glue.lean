/-! the law: glue -/
def shL (s : Nat) : Nat → List Nat
  | 0 => []
  | n + 1 => s :: shL (s + 1) n
theorem shL_mem : ∀ {n s i : Nat}, i ∈ shL s n → s ≤ i ∧ i < s + n
  | 0, _, _, h => absurd h List.not_mem_nil
  | n + 1, s, i, h => by
    rcases List.mem_cons.mp h with e | e
    · omega
    · have := shL_mem e
      omega
theorem shL_nd : ∀ (n s : Nat), va_nd (shL s n) = true
  | 0, _ => rfl
  | n + 1, s => by
    show va_nd (s :: shL (s + 1) n) = true
    simp only [va_nd, Bool.and_eq_true, decide_eq_true_eq]
    exact ⟨fun h => by have := shL_mem h; omega, shL_nd n (s + 1)⟩
theorem shL_map : ∀ (wc pre post : va_W), (shL pre.length wc.length).map (fun i => (pre ++ (wc ++ post))[i]?) = wc.map some
  | [], _, _ => rfl
  | x :: t, pre, post => by
    have ih := shL_map t (pre ++ [x]) post
    rw [List.length_append, List.append_assoc] at ih
    show (pre ++ (x :: (t ++ post)))[pre.length]? :: (shL (pre.length + 1) t.length).map (fun i => (pre ++ ([x] ++ (t ++ post)))[i]?) = some x :: t.map some
    rw [show pre.length + 1 = pre.length + [x].length from rfl, ih, List.getElem?_append_right (Nat.le_refl _), Nat.sub_self]
    rfl
theorem JN.mid {pre wc post w1 : va_W} (ha : w1.map (·.1) = wc.map (·.1)) : JN (shL pre.length wc.length) (pre ++ (wc ++ post)) wc w1 (pre ++ (w1 ++ post)) := by
  have hlen : w1.length = wc.length := by have := congrArg List.length ha; simpa using this
  refine ⟨shL_nd _ _, shL_map wc pre post, fun k q hk => ?_, by rw [List.map_append, List.map_append, List.map_append, List.map_append, ha]⟩
  rcases Nat.lt_or_ge k pre.length with h | h
  · rw [List.getElem?_append_left h] at hk
    exact Or.inr ⟨by rw [List.getElem?_append_left h]; exact hk, fun hm => by have := shL_mem hm; omega⟩
  · rw [List.getElem?_append_right h] at hk
    rcases Nat.lt_or_ge (k - pre.length) w1.length with h2 | h2
    · rw [List.getElem?_append_left h2] at hk
      exact Or.inl ⟨_, hk⟩
    · rw [List.getElem?_append_right h2] at hk
      refine Or.inr ⟨?_, fun hm => by have := shL_mem hm; omega⟩
      rw [List.getElem?_append_right h, List.getElem?_append_right (by omega), ← hlen]
      exact hk
theorem JN.appL {wc post w1 : va_W} (ha : w1.map (·.1) = wc.map (·.1)) : JN (shL 0 wc.length) (wc ++ post) wc w1 (w1 ++ post) := JN.mid (pre := []) ha
theorem JN.appR {pre wc w1 : va_W} (ha : w1.map (·.1) = wc.map (·.1)) : JN (shL pre.length wc.length) (pre ++ wc) wc w1 (pre ++ w1) := by
  have h := JN.mid (pre := pre) (post := []) ha
  rw [List.append_nil, List.append_nil] at h
  exact h
theorem IW.x0 {a b : Nat → Nat} {cI : ClassId} {wx wm : va_W} (h : IW a b cI wx wm) (wr : va_W) : ∃ fs, (wx ++ wr)[0]? = some (a 0, .inr (3, fs)) := by
  obtain ⟨fs, h1, h2⟩ := h.rx
  exact ⟨fs, by rw [List.getElem?_append_left (by omega)]; exact h1⟩
theorem IW.m0 {a b : Nat → Nat} {cI : ClassId} {wx wm : va_W} (h : IW a b cI wx wm) (wl : va_W) : ∃ fs, (wl ++ wm)[wl.length]? = some (b 0, .inr (4, fs)) := by
  obtain ⟨fs, h1, h2⟩ := h.rm
  exact ⟨fs, by rw [List.getElem?_append_right (Nat.le_refl _), Nat.sub_self]; exact h1⟩
theorem lg_self (r : Int64) : lg_cmp r r = 0 := by
  unfold lg_cmp
  rw [if_neg (fun h => Int64.lt_irrefl h), if_pos rfl]
section LW
variable {p : Program} {l : Launch} {e : Env} {R : Room} {s : State} {m : MethodId} {args : Array Value} {below : List Frame} {meth : Method} {c : Code} {H : Heap} {locs : List Loc} {cells slots : Nat} {Q : State → Prop}
theorem kVIN {na nb nn nd nh : String} {ni : Nat} (hnt : (Cond.fieldLinkNest na ni nb nn nd nh).onTables = true) (hnw : va_Nw (.fieldLinkNest na ni nb nn nd nh) s) {y : MethodName} {bytes cc : ByteArray} {maxL nL n index : Nat} {ret : Option FieldType} {ws ws' Ts : List Cond} {rm : Room} {own C : String} {b : Addr} {As rest st0 : List Value} {D : va_G} {cI : ClassId} {A : Nat → Prop} {is : List Nat} {wst wc w1 wst' : va_W} {r : Int32} {pc : Nat} {ls : Array Slot} {lv : List (Nat × Value)}
    (S : CallFix p m c cc nL s args Ts own) (hl : lv_has ls nL lv) (hK : va_K D vwCl [(cI, .int)] s) (hP : va_P D vwCl wst H) (hD : va_D A wst) (hS : va_S A s.heap H locs) (hA : ∀ q, s.heap.size ≤ q → A q)
    (hM : mIN l y ws rm (.fieldLinkNest na ni nb nn nd nh) D cI (.ref b :: As) wc w1 r) (hG : GoodIn Ts (wsV own index C y ws)) (hw : ws = Cond.code y bytes maxL ret :: ws') (hdg : decode cc pc = .ok (.invokevirtual index, 3))
    (hd : y.cls = C ∧ y.cls ≠ "java/lang/invoke/MethodHandle" ∧ y.cls ≠ "java/lang/invoke/VarHandle" ∧ (parseMethodDescriptor y.desc).map (fun d => d.parameters.length) = some n)
    (hR : (rm.cells = 0 ∧ rm.slots = 0) ∧ (rm.frames + 1 ≤ R.frames ∧ 8 + (maxL + 11) + rm.locals ≤ R.locals) ∧ cells ≤ R.cells ∧ slots ≤ R.slots) (J : JN is wst wc w1 wst')
    (q0 : Nat) {ci : Nat} {q : vw_C} {fs : List Value} (he : wst[q0]? = some (b, .inr (ci, fs))) (hc : vwCl[ci]? = some q ∧ q.1 = C) (hst : st0 = As.reverse ++ .ref b :: rest) (hn : As.length = n) (hr8 : (rest.map fun v => v.category).sum ≤ 8)
    (kk : ∀ (H1 : Heap) (locs1 : List Loc), va_P D vwCl wst' H1 → va_D A wst' → va_S A s.heap H1 locs1 → W p l e R s m args below meth c H1 locs1 cells slots Q (F0 m (pc + 3) ls (.int r :: rest))) : W p l e R s m args below meth c H locs cells slots Q (F0 m pc ls st0) := by
  obtain ⟨hcq, rfl⟩ := hc
  have hDc := hD.sub is J.1 J.2.1
  have hF := va_free hD hS hA is J.2.1
  have hPc : va_P D vwCl wc H := hP.sub is (by
    have := congrArg (List.filterMap id) J.2.1
    simpa [List.filterMap_map] using this)
  refine va_calli (va_runV (As := As) (rest := rest) S (hM H.size) (cwV n S.2.2.2.2 hG hw hR.1.1 hR.1.2 hd hR.2.1) ⟨mPreN_blind hnt, va_recv hK hP hcq he, fun U hU hW => ⟨rfl, ⟨by rw [hU], by rw [hU]; exact hPc, va_K.moved hW.alike hK, hDc.weaken (fun _ _ _ _ => trivial)⟩, va_Nw.warmF hW hnw⟩⟩ rfl hn hl.1 hst (lv_room hr8) hdg ⟨hR.2.2.1, hR.2.2.2⟩) hS (fun q _ h => hF q h) hF (fun r2 u t H1 locs1 ht hvm hw2 hB hz1 hk1 hS1 => ?_)
  subst hw2
  rw [ht] at hB
  obtain ⟨hP2, hD2⟩ := J.join hP hD hB hk1
  exact kk H1 locs1 hP2 hD2 hS1
/-- an int of the script -/
theorem ldA {b L i k : Nat} {kk : Int32} {n : Int} {xs : Nat → Int32} {a1 a2 : Addr} {pc : Nat} {ls : Array Slot} {rest : List Value} (hL : L ≤ 2560) (CF : CallFix p m c cL_law 4 s args wsL_law RL) (hX : va_X b L xs s s.heap) (hbl : b < s.heap.size) (hS : va_S (fun q : Nat => s.heap.size ≤ q) s.heap H locs) (hl : lv_has ls 4 [(0, .ref b), (1, .ref a1), (2, .ref a2), (3, .int (nI i))])
    (hk : nI i + kk = nI (i + k)) (hlt : i + k < L) (hn : Int32.ofInt n = kk) (d0 : decode cL_law pc = .ok (.aload_n 0, 1)) (d1 : decode cL_law (pc + 1) = .ok (.iload_n 3, 1)) (d2 : decode cL_law (pc + 2) = .ok (.iconst n, 1)) (d3 : decode cL_law (pc + 3) = .ok (.iadd, 1)) (d4 : decode cL_law (pc + 4) = .ok (.iaload, 1))
    (go : W p l e R s m args below meth c H locs cells slots Q (F0 m (pc + 5) ls (.int (xs (i + k)) :: rest))) : W p l e R s m args below meth c H locs cells slots Q (F0 m pc ls rest) := by
  obtain ⟨hx, hb, hml, hown, hts⟩ := id CF
  refine lv_aload_n hx hb d0 rfl (lv_at hl 0 rfl) ?_
  refine lv_iload_n hx hb d1 rfl (lv_at hl 3 rfl) ?_
  refine lv_iconst hx hb d2 hn ?_
  refine lv_iadd hx hb d3 ?_
  rw [hk]
  refine va_sld hx hb hX hbl (Nat.not_le.mpr hbl) hS (vp_in_nI hlt (by omega)) d4 ?_
  rw [nI_clamp (by omega)]
  exact go
end LW
