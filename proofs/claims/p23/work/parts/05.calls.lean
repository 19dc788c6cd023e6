/-! ===== what only the tables say, carried along; a method's start and end; calls in place ===== -/
def NW (U : State) : Prop := va_Nw (.methodLinkNest RX5 11 yX0_init RX5) U ∧ va_Nw (.methodLinkNest RX5 18 yX3_init RX5) U ∧ va_Nw (.methodLinkNest RX5 25 yX2_init RX5) U ∧ va_Nw (.methodLinkNest RX5 32 yX1_init RX5) U ∧ va_Nw (.methodLinkNest RX5 39 yX4_init RX5) U ∧ va_Nw (.methodLinkNest RX0 22 yX5_fallOf RX5) U ∧ va_Nw (.methodLinkNest RX0 25 yX5_waterOf RX5) U ∧ va_Nw (.methodLinkNest RX3 35 yX5_waterOf RX5) U ∧ va_Nw (.fieldLinkNest RX5 135 RX4 "made" "I" RX5) U ∧ va_Nw (.fieldLinkNest RX5 87 RX3 "made" "I" RX5) U
theorem NW.warm {s U : State} (hW : s.WarmedH U.vm) (h : NW s) : NW U := ⟨va_Nw.warmM hW h.1, va_Nw.warmM hW h.2.1, va_Nw.warmM hW h.2.2.1, va_Nw.warmM hW h.2.2.2.1, va_Nw.warmM hW h.2.2.2.2.1, va_Nw.warmM hW h.2.2.2.2.2.1, va_Nw.warmM hW h.2.2.2.2.2.2.1, va_Nw.warmM hW h.2.2.2.2.2.2.2.1, va_Nw.warmF hW h.2.2.2.2.2.2.2.2.1, va_Nw.warmF hW h.2.2.2.2.2.2.2.2.2⟩
theorem NW.same {u U : State} (e : u.vm = U.vm) (h : NW u) : NW U := ⟨va_Nw.same rfl e h.1, va_Nw.same rfl e h.2.1, va_Nw.same rfl e h.2.2.1, va_Nw.same rfl e h.2.2.2.1, va_Nw.same rfl e h.2.2.2.2.1, va_Nw.same rfl e h.2.2.2.2.2.1, va_Nw.same rfl e h.2.2.2.2.2.2.1, va_Nw.same rfl e h.2.2.2.2.2.2.2.1, va_Nw.same rfl e h.2.2.2.2.2.2.2.2.1, va_Nw.same rfl e h.2.2.2.2.2.2.2.2.2⟩
def TB (D : va_G) (cI cJ cZ : ClassId) (U : State) : Prop := va_K D vwCl [(cI, .int), (cJ, .long), (cZ, .boolean)] U ∧ NW U
theorem TB.warm {D : va_G} {cI cJ cZ : ClassId} {s U : State} (hW : s.WarmedH U.vm) (h : TB D cI cJ cZ s) : TB D cI cJ cZ U := ⟨va_K.moved hW.alike h.1, NW.warm hW h.2⟩
theorem TB.blind {D : va_G} {cI cJ cZ : ClassId} {U : State} (h : TB D cI cJ cZ U) (g : JFrame) (mk : MethodId) (a : Array Value) : TB D cI cJ cZ (U.calling g mk a) := ⟨va_K.moved (u := U) (U := U.calling g mk a) (Vm.Alike.refl U.vm) h.1, NW.same (u := U) (U := U.calling g mk a) rfl h.2⟩
def mPre (D : va_G) (cI cJ cZ : ClassId) (ws : va_W) (sz : Nat) (U : State) : Prop := U.heap.size = sz ∧ va_P D vwCl ws U.heap ∧ TB D cI cJ cZ U ∧ va_D (fun _ => True) ws
theorem mPre.blind {D : va_G} {cI cJ cZ : ClassId} {ws : va_W} {sz : Nat} {av : List Value} : FrameBlind (va_Pc av (mPre D cI cJ cZ ws sz)) := fun a _ g mk h => ⟨h.1, h.2.1, h.2.2.1, h.2.2.2.1.blind g mk a, h.2.2.2.2⟩
abbrev Qi9 (D : va_G) (A : Nat → Prop) (w1 : va_W) (r : Int32) : Array Value → State → Outcome → State → Prop := va_Qi (fun (r' : Int32) (_ : Unit) => r' = r) (fun (_ : Unit) (t : State) => va_P D vwCl w1 t.heap ∧ va_D A w1) A
abbrev Ql9 (D : va_G) (A : Nat → Prop) (w1 : va_W) (r : Int64) : Array Value → State → Outcome → State → Prop := va_Ql (fun (r' : Int64) (_ : Unit) => r' = r) (fun (_ : Unit) (t : State) => va_P D vwCl w1 t.heap ∧ va_D A w1) A
abbrev Qd9 (D : va_G) (A : Nat → Prop) (w1 : va_W) (r : UInt64) : Array Value → State → Outcome → State → Prop := va_Qd (fun (r' : UInt64) (_ : Unit) => r' = r) (fun (_ : Unit) (t : State) => va_P D vwCl w1 t.heap ∧ va_D A w1) A
abbrev Qv9 (D : va_G) (A : Nat → Prop) (w1 : va_W) : Array Value → State → Outcome → State → Prop := va_Qv (fun (_ : Unit) => True) (fun (_ : Unit) (t : State) => va_P D vwCl w1 t.heap ∧ va_D A w1) A
/-- the cells at the places is, in their order, replaced -/
def pl9 : List Nat → va_W → va_W → va_W
  | i :: is, x :: xs, ws => pl9 is xs (ws.set i x)
  | _, _, ws => ws
theorem pl9_get : ∀ (is : List Nat) (w ws : va_W), is.length = w.length → ∀ (k : Nat) (q : Nat × va_E), (pl9 is w ws)[k]? = some q → (∃ j : Nat, is[j]? = some k ∧ w[j]? = some q) ∨ (k ∉ is ∧ ws[k]? = some q)
  | [], _, ws, _, k, q, h => Or.inr ⟨List.not_mem_nil, by simpa [pl9] using h⟩
  | _ :: _, [], _, hl, _, _, _ => by simp at hl
  | i :: is, x :: xs, ws, hl, k, q, h => by
    have h' : (pl9 is xs (ws.set i x))[k]? = some q := h
    rcases pl9_get is xs (ws.set i x) (by simpa using hl) k q h' with ⟨j, h1, h2⟩ | ⟨h1, h2⟩
    · exact Or.inl ⟨j + 1, by simpa using h1, by simpa using h2⟩
    · by_cases hk : k = i
      · subst hk
        have hlt : k < ws.length := by
          have := (List.getElem?_eq_some_iff.mp h2).1
          simpa using this
        rw [List.getElem?_set_self hlt] at h2
        exact Or.inl ⟨0, rfl, h2⟩
      · rw [List.getElem?_set_ne (Ne.symm hk)] at h2
        exact Or.inr ⟨by simp [hk, h1], h2⟩
theorem fm_of {α β : Type} {f : α → Option β} : ∀ {is : List α} {w : List β}, is.map f = w.map some → is.filterMap f = w
  | [], [], _ => rfl
  | [], _ :: _, h => by simp at h
  | _ :: _, [], h => by simp at h
  | i :: is, x :: w, h => by
    simp only [List.map_cons, List.cons.injEq] at h
    rw [List.filterMap_cons, h.1]
    show x :: List.filterMap f is = x :: w
    rw [fm_of h.2]
theorem mp_len {α β : Type} {f : α → Option β} {is : List α} {w : List β} (h : is.map f = w.map some) : is.length = w.length := by
  have := congrArg List.length h
  simpa using this
theorem mp_at {α : Type} {f : α → Option (Nat × va_E)} {is : List α} {w : va_W} (h : is.map f = w.map some) {j : Nat} {q : Nat × va_E} (hq : w[j]? = some q) : ∃ i, is[j]? = some i ∧ f i = some q := by
  have h1 : (is.map f)[j]? = some (some q) := by rw [h, List.getElem?_map, hq]; rfl
  rw [List.getElem?_map] at h1
  cases hi : is[j]? with
  | none => rw [hi] at h1; cases h1
  | some i => rw [hi] at h1; exact ⟨i, rfl, Option.some.inj h1⟩
theorem mp_at2 {α : Type} {f : α → Option (Nat × va_E)} {is : List α} {w : va_W} (h : is.map f = w.map some) {j : Nat} {i : α} (hi : is[j]? = some i) : ∃ q, w[j]? = some q ∧ f i = some q := by
  have h1 : (w.map some)[j]? = some (f i) := by rw [← h, List.getElem?_map, hi]; rfl
  rw [List.getElem?_map] at h1
  cases hq : w[j]? with
  | none => rw [hq] at h1; cases h1
  | some q => rw [hq] at h1; exact ⟨q, rfl, (Option.some.inj h1).symm⟩
/-- behind a call that made nothing: the callee's cells as it left them, the others as they were, all in their places -/
theorem jn9 {A : Nat → Prop} {D : va_G} {cl : List vw_C} {ws wc w1 ws2 : va_W} {H H1 : Heap} (hP : va_P D cl ws H) (hD : va_D A ws) (isC : List Nat) (hC : isC.map (fun i => ws[i]?) = wc.map some) (h1 : w1.map Prod.fst = wc.map Prod.fst) (h2 : pl9 isC w1 ws = ws2)
    (hk : ∀ q : Nat, q < H.size → ¬ va_A wc H.size q → H1[q]? = H[q]?) (hP1 : va_P D cl w1 H1) : va_P D cl ws2 H1 ∧ va_D A ws2 := by
  subst h2
  have hlen : isC.length = w1.length := by
    have e1 := mp_len hC
    have e2 := congrArg List.length h1
    simp at e2
    omega
  have same : ∀ (j : Nat) (q : Nat × va_E), w1[j]? = some q → ∃ q0, wc[j]? = some q0 ∧ q0.1 = q.1 := by
    intro j q hq
    have e : (wc.map Prod.fst)[j]? = some q.1 := by rw [← h1, List.getElem?_map, hq]; rfl
    rw [List.getElem?_map] at e
    cases hz : wc[j]? with
    | none => rw [hz] at e; cases e
    | some z => rw [hz] at e; exact ⟨z, rfl, Option.some.inj e⟩
  have key : ∀ (k : Nat) (q : Nat × va_E), (pl9 isC w1 ws)[k]? = some q → ∃ q0, ws[k]? = some q0 ∧ q0.1 = q.1 := by
    intro k q hq
    rcases pl9_get isC w1 ws hlen k q hq with ⟨j, a1, a2⟩ | ⟨-, a2⟩
    · obtain ⟨q0, b1, b2⟩ := same j q a2
      obtain ⟨q9, c1, c2⟩ := mp_at2 hC a1
      cases Option.some.inj (b1.symm.trans c1)
      exact ⟨q0, c2, b2⟩
    · exact ⟨q, a2, rfl⟩
  refine ⟨fun k q hq => ?_, fun i j x y hi hj hxy => ?_, fun k q hq => ?_⟩
  · rcases pl9_get isC w1 ws hlen k q hq with ⟨j, -, a2⟩ | ⟨a1, a2⟩
    · exact hP1 j q a2
    · refine (hP k q a2).kept (hk q.1 (hP k q a2).lt (fun hA => ?_))
      rcases hA with ⟨j, e9, hj⟩ | hA
      · obtain ⟨i, b1, b2⟩ := mp_at hC hj
        have hki := hD.1 k i q (q.1, e9) a2 b2 rfl
        subst hki
        exact a1 (List.mem_of_getElem? b1)
      · have := (hP k q a2).lt
        omega
  · obtain ⟨x0, a1, a2⟩ := key i x hi
    obtain ⟨y0, b1, b2⟩ := key j y hj
    exact hD.1 i j x0 y0 a1 b1 (a2.trans (hxy.trans b2.symm))
  · obtain ⟨q0, a1, a2⟩ := key k q hq
    rw [← a2]
    exact hD.2 k q0 a1
theorem pvS {s : State} {H : Heap} {D : va_G} {cI cJ cZ : ClassId} {A : Nat → Prop} {ws wc : va_W} {As : List Value} (hT : TB D cI cJ cZ s) (hP : va_P D vwCl ws H) (hD : va_D A ws) (isC : List Nat) (hC : isC.map (fun i => ws[i]?) = wc.map some) (hn : va_nd isC = true) : PreS s H (va_Pc As (mPre D cI cJ cZ wc H.size)) As :=
  ⟨mPre.blind, fun U hU hW => ⟨rfl, by rw [hU], by rw [hU]; exact hP.sub isC (fm_of hC), hT.warm hW, (hD.sub isC hn hC).weaken (fun _ _ _ _ => trivial)⟩⟩
theorem pvV {s : State} {H : Heap} {D : va_G} {cI cJ cZ : ClassId} {A : Nat → Prop} {ws wc : va_W} {b ci : Nat} {C : String} {Tt : u_T} {N : Nat} {fs : List Value} {As : List Value} (hT : TB D cI cJ cZ s) (hP : va_P D vwCl ws H) (hD : va_D A ws) (isC : List Nat) (hC : isC.map (fun i => ws[i]?) = wc.map some) (hn : va_nd isC = true) (q0 : Nat) (he : wc[q0]? = some (b, .inr (ci, fs))) (hc : vwCl[ci]? = some (C, Tt, N)) : PreV s H C b (va_Pc (.ref b :: As) (mPre D cI cJ cZ wc H.size)) As :=
  ⟨mPre.blind, va_recv (q := (C, Tt, N)) hT.1 (hP.sub isC (fm_of hC)) hc he, fun U hU hW => ⟨rfl, by rw [hU], by rw [hU]; exact hP.sub isC (fm_of hC), hT.warm hW, (hD.sub isC hn hC).weaken (fun _ _ _ _ => trivial)⟩⟩
section MYCALLS
variable {p : Program} {l : Launch} {e : Env} {R : Room} {s : State} {m : MethodId} {args : Array Value} {below : List Frame} {meth : Method} {c : Code} {H : Heap} {locs : List Loc} {cells slots : Nat} {Q : State → Prop} {pc : Nat} {ls : Array Slot} {rest st0 : List Value} {cc : ByteArray}
variable {D : va_G} {A : Nat → Prop} {ws wc w1 ws2 : va_W} {a : Array Value}
theorem cr_i {r : Int32} (hP : va_P D vwCl ws H) (hD : va_D A ws) (hS : va_S A s.heap H locs) (hA : ∀ q, s.heap.size ≤ q → A q) (isC : List Nat) (hC : isC.map (fun i => ws[i]?) = wc.map some) (h1 : w1.map Prod.fst = wc.map Prod.fst) (h2 : pl9 isC w1 ws = ws2)
    (hr : va_Run p l e R s m args below meth c H locs cells slots 0 0 (F0 m pc ls st0) rest (Qi9 D (va_A wc H.size) w1 r a) (va_A wc H.size))
    (kk : ∀ (H1 : Heap) (locs1 : List Loc), va_P D vwCl ws2 H1 → va_D A ws2 → va_S A s.heap H1 locs1 → W p l e R s m args below meth c H1 locs1 cells slots Q (F0 m (pc + 3) ls (.int r :: rest))) : W p l e R s m args below meth c H locs cells slots Q (F0 m pc ls st0) := by
  have hF := va_free hD hS hA isC hC
  refine va_calli hr hS (fun q _ h => hF q h) hF (fun r' u t H1 locs1 ht _ hp hB _ hk hS1 => ?_)
  subst hp
  rw [ht] at hB
  obtain ⟨g1, g2⟩ := jn9 hP hD isC hC h1 h2 hk hB.1
  exact kk H1 locs1 g1 g2 hS1
theorem cr_l {r : Int64} (hP : va_P D vwCl ws H) (hD : va_D A ws) (hS : va_S A s.heap H locs) (hA : ∀ q, s.heap.size ≤ q → A q) (isC : List Nat) (hC : isC.map (fun i => ws[i]?) = wc.map some) (h1 : w1.map Prod.fst = wc.map Prod.fst) (h2 : pl9 isC w1 ws = ws2)
    (hr : va_Run p l e R s m args below meth c H locs cells slots 0 0 (F0 m pc ls st0) rest (Ql9 D (va_A wc H.size) w1 r a) (va_A wc H.size))
    (kk : ∀ (H1 : Heap) (locs1 : List Loc), va_P D vwCl ws2 H1 → va_D A ws2 → va_S A s.heap H1 locs1 → W p l e R s m args below meth c H1 locs1 cells slots Q (F0 m (pc + 3) ls (.long r :: rest))) : W p l e R s m args below meth c H locs cells slots Q (F0 m pc ls st0) := by
  have hF := va_free hD hS hA isC hC
  refine va_calll hr hS (fun q _ h => hF q h) hF (fun r' u t H1 locs1 ht _ hp hB _ hk hS1 => ?_)
  subst hp
  rw [ht] at hB
  obtain ⟨g1, g2⟩ := jn9 hP hD isC hC h1 h2 hk hB.1
  exact kk H1 locs1 g1 g2 hS1
theorem cr_d {r : UInt64} (hP : va_P D vwCl ws H) (hD : va_D A ws) (hS : va_S A s.heap H locs) (hA : ∀ q, s.heap.size ≤ q → A q) (isC : List Nat) (hC : isC.map (fun i => ws[i]?) = wc.map some) (h1 : w1.map Prod.fst = wc.map Prod.fst) (h2 : pl9 isC w1 ws = ws2)
    (hr : va_Run p l e R s m args below meth c H locs cells slots 0 0 (F0 m pc ls st0) rest (Qd9 D (va_A wc H.size) w1 r a) (va_A wc H.size))
    (kk : ∀ (H1 : Heap) (locs1 : List Loc), va_P D vwCl ws2 H1 → va_D A ws2 → va_S A s.heap H1 locs1 → W p l e R s m args below meth c H1 locs1 cells slots Q (F0 m (pc + 3) ls (.double r :: rest))) : W p l e R s m args below meth c H locs cells slots Q (F0 m pc ls st0) := by
  have hF := va_free hD hS hA isC hC
  refine va_calld hr hS (fun q _ h => hF q h) hF (fun r' u t H1 locs1 ht _ hp hB _ hk hS1 => ?_)
  subst hp
  rw [ht] at hB
  obtain ⟨g1, g2⟩ := jn9 hP hD isC hC h1 h2 hk hB.1
  exact kk H1 locs1 g1 g2 hS1
theorem cr_v (hP : va_P D vwCl ws H) (hD : va_D A ws) (hS : va_S A s.heap H locs) (hA : ∀ q, s.heap.size ≤ q → A q) (isC : List Nat) (hC : isC.map (fun i => ws[i]?) = wc.map some) (h1 : w1.map Prod.fst = wc.map Prod.fst) (h2 : pl9 isC w1 ws = ws2)
    (hr : va_Run p l e R s m args below meth c H locs cells slots 0 0 (F0 m pc ls st0) rest (Qv9 D (va_A wc H.size) w1 a) (va_A wc H.size))
    (kk : ∀ (H1 : Heap) (locs1 : List Loc), va_P D vwCl ws2 H1 → va_D A ws2 → va_S A s.heap H1 locs1 → W p l e R s m args below meth c H1 locs1 cells slots Q (F0 m (pc + 3) ls rest)) : W p l e R s m args below meth c H locs cells slots Q (F0 m pc ls st0) := by
  have hF := va_free hD hS hA isC hC
  refine va_callv hr hS (fun q _ h => hF q h) hF (fun u t H1 locs1 ht _ _ hB _ hk hS1 => ?_)
  rw [ht] at hB
  obtain ⟨g1, g2⟩ := jn9 hP hD isC hC h1 h2 hk hB.1
  exact kk H1 locs1 g1 g2 hS1
theorem fin_i {r v : Int32} (hexec : p.tables.exec = Jvm.exec) (hb : c.code = cc) (hr : meth.sig.returnType = some .int) (hlocks : meth.locks = false) (hP : va_P D vwCl w1 H) (hD : va_D A w1) (hS : va_S A s.heap H locs) (he : v = r) (hdg : decode cc pc = .ok (.ireturn, 1)) : W p l e R s m args below meth c H locs cells slots (MQ below (Qi9 D A w1 r) args s cells slots A) (F0 m pc ls [.int v]) := by
  subst he
  exact W.iret hexec hb hr (fun t ht hW => ⟨⟨v, (), rfl, rfl, by rw [ht]; exact hP, hD⟩, hS.F ht⟩) hS.2.2 hdg hlocks
theorem fin_z {r : Bool} {v : Int32} (hexec : p.tables.exec = Jvm.exec) (hb : c.code = cc) (hr : meth.sig.returnType = some .boolean) (hlocks : meth.locks = false) (hP : va_P D vwCl w1 H) (hD : va_D A w1) (hS : va_S A s.heap H locs) (he : v = bI r) (hdg : decode cc pc = .ok (.ireturn, 1)) : W p l e R s m args below meth c H locs cells slots (MQ below (Qi9 D A w1 (bI r)) args s cells slots A) (F0 m pc ls [.int v]) := by
  subst he
  exact W.zret hexec hb hr (bI_nar r) (fun t ht hW => ⟨⟨bI r, (), rfl, rfl, by rw [ht]; exact hP, hD⟩, hS.F ht⟩) hS.2.2 hdg hlocks
theorem fin_l {r v : Int64} (hexec : p.tables.exec = Jvm.exec) (hb : c.code = cc) (hr : meth.sig.returnType = some .long) (hlocks : meth.locks = false) (hP : va_P D vwCl w1 H) (hD : va_D A w1) (hS : va_S A s.heap H locs) (he : v = r) (hdg : decode cc pc = .ok (.lreturn, 1)) : W p l e R s m args below meth c H locs cells slots (MQ below (Ql9 D A w1 r) args s cells slots A) (F0 m pc ls [.long v]) := by
  subst he
  exact W.lret hexec hb hr (fun t ht hW => ⟨⟨v, (), rfl, rfl, by rw [ht]; exact hP, hD⟩, hS.F ht⟩) hS.2.2 hdg hlocks
theorem fin_d {r v : UInt64} (hexec : p.tables.exec = Jvm.exec) (hb : c.code = cc) (hr : meth.sig.returnType = some .double) (hlocks : meth.locks = false) (hP : va_P D vwCl w1 H) (hD : va_D A w1) (hS : va_S A s.heap H locs) (he : v = r) (hdg : decode cc pc = .ok (.dreturn, 1)) : W p l e R s m args below meth c H locs cells slots (MQ below (Qd9 D A w1 r) args s cells slots A) (F0 m pc ls [.double v]) := by
  subst he
  exact W.dret hexec hb hr (fun t ht hW => ⟨⟨v, (), rfl, rfl, by rw [ht]; exact hP, hD⟩, hS.F ht⟩) hS.2.2 hdg
theorem fin_v (hexec : p.tables.exec = Jvm.exec) (hb : c.code = cc) (hr : meth.sig.returnType = none) (hlocks : meth.locks = false) (hP : va_P D vwCl w1 H) (hD : va_D A w1) (hS : va_S A s.heap H locs) (hdg : decode cc pc = .ok (.return_, 1)) : W p l e R s m args below meth c H locs cells slots (MQ below (Qv9 D A w1) args s cells slots A) (F0 m pc ls []) :=
  W.vret hexec hb hr (fun t ht hW => ⟨⟨(), rfl, trivial, by rw [ht]; exact hP, hD⟩, hS.F ht⟩) hS.2.2 hdg hlocks
end MYCALLS
