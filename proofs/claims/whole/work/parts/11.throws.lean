/-! ===== refusals: what a throw needs of the world, the throw, and its way out ===== -/
def EI9 : String := "java/lang/IndexOutOfBoundsException"
def EA9 : String := "java/lang/IllegalArgumentException"
def ES9 : String := "java/lang/IllegalStateException"
def SQ (A : Nat → Prop) (U : State) (H : Heap) : Prop := vx_Zq Bundle.tN "UNASSIGNED_STACK" Bundle.steD A U H ∧ vx_Zq Bundle.tN "SUPPRESSED_SENTINEL" Bundle.listD A U H
theorem SQ.moved {A : Nat → Prop} {u U : State} {H : Heap} (hvm : u.vm.Alike U.vm) (h : SQ A u H) : SQ A U H := ⟨vx_Zq.moved hvm h.1, vx_Zq.moved hvm h.2⟩
theorem SQ.kept {A : Nat → Prop} {U : State} {H H1 : Heap} (h : SQ A U H) (hq : ∀ a : Nat, a < H.size → ¬ A a → H1[a]? = H[a]?) : SQ A U H1 := ⟨h.1.kept hq, h.2.kept hq⟩
theorem SQ.narrow {A B : Nat → Prop} {U : State} {H : Heap} (h : SQ A U H) (hAB : ∀ q, B q → A q) : SQ B U H := ⟨h.1.narrow hAB, h.2.narrow hAB⟩
def ST (U : State) : Prop := ((∃ a, vk_R RX5 200 "there is no such kilometre" a U) ∧ (∃ a, vk_R RX5 203 "there is no such layer" a U) ∧ (∃ a, vk_R RX5 205 "there is no such gauge" a U) ∧ (∃ a, vk_R RX5 209 "an argument is out of its range" a U) ∧ (∃ a, vk_R RX5 92 "drops have been put into the air 100 times" a U) ∧ (∃ a, vk_R RX5 130 "the minute would be above 600" a U) ∧ (∃ a, vk_R RX5 136 "there are 30 scans" a U) ∧ (∃ a, vk_R RX5 176 "there are not two scans" a U)) ∧ ((va_Nw (.castable "java/lang/IndexOutOfBoundsException" "java/lang/IndexOutOfBoundsException") U ∧ va_Nw (.castable "java/lang/IllegalArgumentException" "java/lang/IllegalArgumentException") U ∧ va_Nw (.castable "java/lang/IllegalStateException" "java/lang/IllegalStateException") U) ∧ va_Nc "java/lang/IllegalArgumentException" "java/lang/IndexOutOfBoundsException" U ∧ va_Nc "java/lang/IllegalStateException" "java/lang/IndexOutOfBoundsException" U ∧ va_Nc "java/lang/IllegalStateException" "java/lang/IllegalArgumentException" U) ∧ va_Nw (.declares (Bundle.initS "java/lang/RuntimeException")) U ∧ va_Nw (.declares (Bundle.initS "java/lang/Exception")) U ∧ va_Nw (.declares (Bundle.initS "java/lang/Throwable")) U
theorem vkx_warm {own tx : String} {k : Nat} {s U : State} (hW : s.WarmedH U.vm) (h : ∃ a, vk_R own k tx a s) : ∃ a, vk_R own k tx a U := h.elim fun a q => ⟨a, vk_R.warm hW q⟩
theorem vkx_same {own tx : String} {k : Nat} {u U : State} (hv : U.vm = u.vm) (h : ∃ a, vk_R own k tx a u) : ∃ a, vk_R own k tx a U := h.elim fun a q => ⟨a, vk_R.same hv q⟩
theorem ST.warm {s U : State} (hW : s.WarmedH U.vm) (h : ST s) : ST U := by
  obtain ⟨⟨a1, a2, a3, a4, a5, a6, a7, a8⟩, ⟨⟨b1, b2, b3⟩, c1, c2, c3⟩, d1, d2, d3⟩ := h
  exact ⟨⟨vkx_warm hW a1, vkx_warm hW a2, vkx_warm hW a3, vkx_warm hW a4, vkx_warm hW a5, vkx_warm hW a6, vkx_warm hW a7, vkx_warm hW a8⟩, ⟨⟨va_Nw.warmC hW b1, va_Nw.warmC hW b2, va_Nw.warmC hW b3⟩, va_Nc.moved hW.alike c1, va_Nc.moved hW.alike c2, va_Nc.moved hW.alike c3⟩, va_Nw.warmD hW d1, va_Nw.warmD hW d2, va_Nw.warmD hW d3⟩
theorem ST.blind {U : State} (h : ST U) (g : JFrame) (mk : MethodId) (a : Array Value) : ST (U.calling g mk a) := by
  obtain ⟨⟨a1, a2, a3, a4, a5, a6, a7, a8⟩, ⟨⟨b1, b2, b3⟩, c1, c2, c3⟩, d1, d2, d3⟩ := h
  have e : (U.calling g mk a).vm = U.vm := rfl
  have hvm : U.vm.Alike (U.calling g mk a).vm := Vm.Alike.refl U.vm
  exact ⟨⟨vkx_same e a1, vkx_same e a2, vkx_same e a3, vkx_same e a4, vkx_same e a5, vkx_same e a6, vkx_same e a7, vkx_same e a8⟩, ⟨⟨va_Nw.same rfl e.symm b1, va_Nw.same rfl e.symm b2, va_Nw.same rfl e.symm b3⟩, va_Nc.moved hvm c1, va_Nc.moved hvm c2, va_Nc.moved hvm c3⟩, va_Nw.same rfl e.symm d1, va_Nw.same rfl e.symm d2, va_Nw.same rfl e.symm d3⟩
def xPre (D : va_G) (cI cJ cZ : ClassId) (ws : va_W) (sz : Nat) (U : State) : Prop := mPre D cI cJ cZ ws sz U ∧ ST U ∧ SQ (va_A ws sz) U U.heap
theorem xPre.blind {D : va_G} {cI cJ cZ : ClassId} {ws : va_W} {sz : Nat} {av : List Value} : FrameBlind (va_Pc av (xPre D cI cJ cZ ws sz)) := fun a U g mk h => ⟨h.1, (mPre.blind a U g mk ⟨h.1, h.2.1⟩).2, h.2.2.1.blind g mk a, SQ.moved (u := U) (U := U.calling g mk a) (Vm.Alike.refl U.vm) h.2.2.2⟩
abbrev XQv : Array Value → State → Outcome → State → Prop := va_Qv (fun (_ : Unit) => False) (fun _ _ => True) (fun _ => False)
abbrev XQi : Array Value → State → Outcome → State → Prop := va_Qi (fun (_ : Int32) (_ : Unit) => False) (fun _ _ => True) (fun _ => False)
abbrev XQl : Array Value → State → Outcome → State → Prop := va_Ql (fun (_ : Int64) (_ : Unit) => False) (fun _ _ => True) (fun _ => False)
abbrev XC9 (D : va_G) (A : Nat → Prop) (ws : va_W) (E : String) : String → State → State → Prop := vx_X (fun (_ : Unit) => True) (fun E' _ t => E' = E ∧ va_P D vwCl ws t.heap ∧ va_D A ws) A
section MYTHROWS
variable {p : Program} {l : Launch} {e : Env} {R : Room} {s : State} {m : MethodId} {args : Array Value} {below : List Frame} {meth : Method} {c : Code} {H : Heap} {locs : List Loc} {Q : State → Prop} {pc : Nat} {ls : Array Slot} {rest st0 : List Value} {cc : ByteArray}
variable {D : va_G} {cI cJ cZ : ClassId} {A : Nat → Prop} {ws wc : va_W} {a : Array Value} {Qc : Array Value → State → Outcome → State → Prop}
theorem pxS {As : List Value} (hT : TB D cI cJ cZ s) (hP : va_P D vwCl ws H) (hD : va_D A ws) (hA : ∀ q, s.heap.size ≤ q → A q) (isC : List Nat) (hC : isC.map (fun i => ws[i]?) = wc.map some) (hn : va_nd isC = true) (hST : ST s) (hSQ : SQ A s s.heap) (hS : va_S A s.heap H locs) : PreS s H (va_Pc As (xPre D cI cJ cZ wc H.size)) As :=
  ⟨xPre.blind, fun U hU hW => ⟨rfl, ((pvS hT hP hD isC hC hn (As := As)).2 U hU hW).2, hST.warm hW, by rw [hU]; exact (SQ.moved hW.alike (hSQ.kept hS.2.1)).narrow (va_free hD hS hA isC hC)⟩⟩
theorem pxV {b ci : Nat} {C : String} {Tt : u_T} {N : Nat} {fs : List Value} {As : List Value} (hT : TB D cI cJ cZ s) (hP : va_P D vwCl ws H) (hD : va_D A ws) (hA : ∀ q, s.heap.size ≤ q → A q) (isC : List Nat) (hC : isC.map (fun i => ws[i]?) = wc.map some) (hn : va_nd isC = true) (q0 : Nat) (he : wc[q0]? = some (b, .inr (ci, fs))) (hc : vwCl[ci]? = some (C, Tt, N)) (hST : ST s) (hSQ : SQ A s s.heap) (hS : va_S A s.heap H locs) : PreV s H C b (va_Pc (.ref b :: As) (xPre D cI cJ cZ wc H.size)) As :=
  ⟨xPre.blind, (pvV hT hP hD isC hC hn q0 he hc (As := As)).2.1, fun U hU hW => ⟨rfl, ((pvS hT hP hD isC hC hn (As := .ref b :: As)).2 U hU hW).2, hST.warm hW, by rw [hU]; exact (SQ.moved hW.alike (hSQ.kept hS.2.1)).narrow (va_free hD hS hA isC hC)⟩⟩
theorem xo_v {E : String} (hnt : ∀ x ∈ c.exceptionTable.toList, False) (hlocks : meth.locks = false) (hP : va_P D vwCl ws H) (hD : va_D A ws) (hS : va_S A s.heap H locs) (hA : ∀ q, s.heap.size ≤ q → A q) (isC : List Nat) (hC : isC.map (fun i => ws[i]?) = wc.map some) (h2 : pl9 isC wc ws = ws)
    (hr : vx_Run p l e R s m args below meth c H locs 0 0 1 6 (F0 m pc ls st0) rest (XQv a) (XC9 D (va_A wc H.size) wc E) (va_A wc H.size)) : W p l e R s m args below meth c H locs 0 0 (vx_MQ below Qc (XC9 D A ws E) args s 1 6 A) (F0 m pc ls st0) := by
  have hF := va_free hD hS hA isC hC
  refine vx_callv hr hS (fun q _ h => h.elim) hF (fun q _ h => hF q h) (fun E' ce q9 u t H1 locs1 ht hvm _ hB hz hk hS1 hce hcv hcl => ?_) (fun u t H1 locs1 _ _ hp _ _ _ _ => hp.elim)
  rw [ht] at hB
  obtain ⟨g1, g2⟩ := jn9 hP hD isC hC rfl h2 hk hB.2.1
  exact vx_out (fun x hx => (hnt x hx).elim) hlocks hce hcv hcl (fun t ht hvm => ⟨(), trivial, ⟨hB.1, by rw [ht]; exact g1, g2⟩, hS1.F ht⟩) hS1.2.2 (Nat.le_refl _) (Nat.le_refl _)
theorem thr9 {own cls text : String} {ik is ic sa : Nat} (hexec : p.tables.exec = Jvm.exec) (hb : c.code = cc) (hlst : l.stackTraces = false) (hown : s.vm.findClass own = some m.cls) (hcls : Bundle.fit cls = true)
    (hk : (Cond.classLink own ik cls).before args s = true) (hini : (Cond.initialized cls).before args s = true) (hstr : vk_R own is text sa s) (hg1 : ∀ w ∈ (vx_atS own ic cls ["java/lang/RuntimeException", "java/lang/Exception"]).filter goodWord, w.before args s = true)
    (hng : ∀ w ∈ (vx_atS own ic cls ["java/lang/RuntimeException", "java/lang/Exception"]).filter (fun w => !goodWord w), w ∈ [Cond.castable cls cls, .declares (Bundle.initS "java/lang/RuntimeException"), .declares (Bundle.initS "java/lang/Exception"), .declares (Bundle.initS "java/lang/Throwable")]) (hca : va_Nw (.castable cls cls) s) (hde : va_Nw (.declares (Bundle.initS "java/lang/RuntimeException")) s ∧ va_Nw (.declares (Bundle.initS "java/lang/Exception")) s ∧ va_Nw (.declares (Bundle.initS "java/lang/Throwable")) s)
    (hgood : ∀ w ∈ Cond.classLink own ik cls :: Cond.initialized cls :: vx_atS own ic cls ["java/lang/RuntimeException", "java/lang/Exception"], vx_ot w = true)
    (hSQ : SQ A s s.heap) (hP : va_P D vwCl ws H) (hD : va_D A ws) (hS : va_S A s.heap H locs) (hsize : ls.size = c.maxLocals)
    (d0 : decode cc pc = .ok (.new ik, 3)) (d3 : decode cc (pc + 3) = .ok (.dup, 1)) (d4 : decode cc (pc + 4) = .ok (.ldc is, 2)) (d6 : decode cc (pc + 6) = .ok (.invokespecial ic, 3)) (d9 : decode cc (pc + 9) = .ok (.athrow, 1))
    (hnt : ∀ x ∈ c.exceptionTable.toList, False) (hRf : 5 < R.frames) (hRl : 82 ≤ R.locals) (hRc : 1 ≤ R.cells) (hRs : 6 ≤ R.slots) (hlocks : meth.locks = false) :
    W p l e R s m args below meth c H locs 0 0 (vx_MQ below Qc (XC9 D A ws cls) args s 1 6 A) (F0 m pc ls []) := by
  have hn : ∀ n ∈ ["java/lang/RuntimeException", "java/lang/Exception"], Bundle.fit n = true := by decide +kernel
  refine vx_throwS hexec hb hlst hown hcls hn hk hini hstr (vx_hat hg1 hng (fun w hw => ?_)) hgood hSQ.1 hSQ.2 hS hsize d0 d3 d4 d6 d9 (fun x hx => (hnt x hx).elim) hRf (by simpa using hRl) (by omega) (by omega) hlocks (fun t hvm hz hk => ⟨(), trivial, ⟨rfl, hP.kept (fun k q hk2 => hk q.1 (hP k q hk2).lt), hD⟩, Nat.le_trans hS.1 hz, fun q h1 h2 => (hk q (Nat.lt_of_lt_of_le h1 hS.1)).trans (hS.2.1 q h1 h2)⟩) hS.2.2 (by omega) (by omega)
  simp only [List.mem_cons, List.not_mem_nil, or_false] at hw
  rcases hw with rfl | rfl | rfl | rfl
  · exact va_Nw.use rfl hca
  · exact va_Nw.use rfl hde.1
  · exact va_Nw.use rfl hde.2.1
  · exact va_Nw.use rfl hde.2.2
end MYTHROWS
set_option maxHeartbeats 4000000 in
set_option maxRecDepth 100000 in
theorem x_X5_requireKilometre_bad (l : Launch) (hlst : l.stackTraces = false) (D : va_G) (cI cJ cZ : ClassId) (xx : Int32) (hbad : xx.toInt < 0 ∨ 20 ≤ xx.toInt) (sz : Nat) : vx_Met l yX5_requireKilometre wsX5_requireKilometre ({ frames := 6, cells := 1, slots := 6, locals := 82 } : Room) (va_Pc [.int xx] (xPre D cI cJ cZ [] sz)) XQv (XC9 D (va_A [] sz) [] "java/lang/IndexOutOfBoundsException") 1 6 (va_A [] sz) := by
  refine vx_ofW (cc := cX5_requireKilometre) (maxL := 1) (ret := none) (by decide) rfl ?_
  intro p e s m args below meth c s₁ B hml hnt hv
  obtain ⟨hargs, ⟨hsz, hP, hT, hD0⟩, hST, hSQ⟩ := hv
  have hx := B.exec
  have hb := B.bytes
  have hr := B.returns
  have hts := atoms_spec (ws := wsX5_requireKilometre) B.pre
  have hown : s.vm.findClass RX5 = some m.cls := findClass_of_methodNamed B.named
  have hlocks := B.notSynchronized
  subst hsz
  have hK := hT.1
  have hD := hD0.self (sz := s.heap.size)
  generalize hAe : va_A [] s.heap.size = A at hD hSQ ⊢
  have hA : ∀ q : Nat, s.heap.size ≤ q → A q := fun q h => by rw [← hAe]; exact Or.inr h
  obtain ⟨H, hHe⟩ : ∃ H : Heap, H = s.heap := ⟨_, rfl⟩
  have hS : va_S A s.heap H [] := by rw [hHe]; exact va_S.rf
  rw [← hHe] at hP
  suffices K0 : W p l e (headSpec wsX5_requireKilometre ({ frames := 6, cells := 1, slots := 6, locals := 82 } : Room)).room s m args below meth c H [] 0 0 (vx_MQ below XQv (XC9 D A [] "java/lang/IndexOutOfBoundsException") args s 1 6 A) (entryFrame m args 1) by rw [hHe] at K0; exact K0
  refine W.eq (g2 := entryFrame m ([.int xx] : List Value).toArray 1) (by rw [hargs]) ?_
  have hl := lv_entry ([.int xx]) (n := 1) (Nat.le_of_ble_eq_true rfl)
  rw [lg_entry_eq]
  generalize (lg_sl ([.int xx]) ++ List.replicate (1 - (lg_sl ([.int xx])).length) Slot.unset).toArray = ls at hl ⊢
  have hl : lv_has ls 1 [(0, .int xx)] := hl
  generalize ([] : List Loc) = locs at hS ⊢
  refine lv_iload_n hx hb dX5_requireKilometre_0 rfl (lv_at hl 0 rfl) ?_
  refine c0_lt (tgt := 10) hx hb dX5_requireKilometre_1 (by decide) rfl (fun c_1 => ?_) (fun c_1 => ?_)
  · obtain ⟨sa, hsa⟩ := hST.1.1
    exact thr9 (own := RX5) (cls := "java/lang/IndexOutOfBoundsException") (ik := 198) (is := 200) (ic := 202) hx hb hlst hown (by decide +kernel) (hts (.classLink RX5 198 "java/lang/IndexOutOfBoundsException") (by decide +kernel)) (hts (.initialized "java/lang/IndexOutOfBoundsException") (by decide +kernel)) hsa (fun w h => hts w (List.mem_cons_of_mem _ (List.mem_append_right _ h))) (by decide +kernel) hST.2.1.1.1 hST.2.2 (by decide +kernel) hSQ hP hD hS (hl.1.trans hml.symm) dX5_requireKilometre_10 dX5_requireKilometre_13 dX5_requireKilometre_14 dX5_requireKilometre_16 dX5_requireKilometre_19 hnt (Nat.le_of_ble_eq_true rfl) (Nat.le_of_ble_eq_true rfl) (Nat.le_of_ble_eq_true rfl) (Nat.le_of_ble_eq_true rfl) hlocks
  · refine lv_iload_n hx hb dX5_requireKilometre_4 rfl (lv_at hl 0 rfl) ?_
    refine lv_bipush (v := nI 20) hx hb dX5_requireKilometre_5 (by decide) ?_
    refine ci_lt (tgt := 20) hx hb dX5_requireKilometre_7 (by decide) rfl (nT (by omega)) (fun c_7 => by omega) (fun c_7 => ?_)
    obtain ⟨sa, hsa⟩ := hST.1.1
    exact thr9 (own := RX5) (cls := "java/lang/IndexOutOfBoundsException") (ik := 198) (is := 200) (ic := 202) hx hb hlst hown (by decide +kernel) (hts (.classLink RX5 198 "java/lang/IndexOutOfBoundsException") (by decide +kernel)) (hts (.initialized "java/lang/IndexOutOfBoundsException") (by decide +kernel)) hsa (fun w h => hts w (List.mem_cons_of_mem _ (List.mem_append_right _ h))) (by decide +kernel) hST.2.1.1.1 hST.2.2 (by decide +kernel) hSQ hP hD hS (hl.1.trans hml.symm) dX5_requireKilometre_10 dX5_requireKilometre_13 dX5_requireKilometre_14 dX5_requireKilometre_16 dX5_requireKilometre_19 hnt (Nat.le_of_ble_eq_true rfl) (Nat.le_of_ble_eq_true rfl) (Nat.le_of_ble_eq_true rfl) (Nat.le_of_ble_eq_true rfl) hlocks
set_option maxHeartbeats 4000000 in
set_option maxRecDepth 100000 in
theorem x_X5_requireLayer_bad (l : Launch) (hlst : l.stackTraces = false) (D : va_G) (cI cJ cZ : ClassId) (xx : Int32) (hbad : xx.toInt < 0 ∨ 10 ≤ xx.toInt) (sz : Nat) : vx_Met l yX5_requireLayer wsX5_requireLayer ({ frames := 6, cells := 1, slots := 6, locals := 82 } : Room) (va_Pc [.int xx] (xPre D cI cJ cZ [] sz)) XQv (XC9 D (va_A [] sz) [] "java/lang/IndexOutOfBoundsException") 1 6 (va_A [] sz) := by
  refine vx_ofW (cc := cX5_requireLayer) (maxL := 1) (ret := none) (by decide) rfl ?_
  intro p e s m args below meth c s₁ B hml hnt hv
  obtain ⟨hargs, ⟨hsz, hP, hT, hD0⟩, hST, hSQ⟩ := hv
  have hx := B.exec
  have hb := B.bytes
  have hr := B.returns
  have hts := atoms_spec (ws := wsX5_requireLayer) B.pre
  have hown : s.vm.findClass RX5 = some m.cls := findClass_of_methodNamed B.named
  have hlocks := B.notSynchronized
  subst hsz
  have hK := hT.1
  have hD := hD0.self (sz := s.heap.size)
  generalize hAe : va_A [] s.heap.size = A at hD hSQ ⊢
  have hA : ∀ q : Nat, s.heap.size ≤ q → A q := fun q h => by rw [← hAe]; exact Or.inr h
  obtain ⟨H, hHe⟩ : ∃ H : Heap, H = s.heap := ⟨_, rfl⟩
  have hS : va_S A s.heap H [] := by rw [hHe]; exact va_S.rf
  rw [← hHe] at hP
  suffices K0 : W p l e (headSpec wsX5_requireLayer ({ frames := 6, cells := 1, slots := 6, locals := 82 } : Room)).room s m args below meth c H [] 0 0 (vx_MQ below XQv (XC9 D A [] "java/lang/IndexOutOfBoundsException") args s 1 6 A) (entryFrame m args 1) by rw [hHe] at K0; exact K0
  refine W.eq (g2 := entryFrame m ([.int xx] : List Value).toArray 1) (by rw [hargs]) ?_
  have hl := lv_entry ([.int xx]) (n := 1) (Nat.le_of_ble_eq_true rfl)
  rw [lg_entry_eq]
  generalize (lg_sl ([.int xx]) ++ List.replicate (1 - (lg_sl ([.int xx])).length) Slot.unset).toArray = ls at hl ⊢
  have hl : lv_has ls 1 [(0, .int xx)] := hl
  generalize ([] : List Loc) = locs at hS ⊢
  refine lv_iload_n hx hb dX5_requireLayer_0 rfl (lv_at hl 0 rfl) ?_
  refine c0_lt (tgt := 10) hx hb dX5_requireLayer_1 (by decide) rfl (fun c_1 => ?_) (fun c_1 => ?_)
  · obtain ⟨sa, hsa⟩ := hST.1.2.1
    exact thr9 (own := RX5) (cls := "java/lang/IndexOutOfBoundsException") (ik := 198) (is := 203) (ic := 202) hx hb hlst hown (by decide +kernel) (hts (.classLink RX5 198 "java/lang/IndexOutOfBoundsException") (by decide +kernel)) (hts (.initialized "java/lang/IndexOutOfBoundsException") (by decide +kernel)) hsa (fun w h => hts w (List.mem_cons_of_mem _ (List.mem_append_right _ h))) (by decide +kernel) hST.2.1.1.1 hST.2.2 (by decide +kernel) hSQ hP hD hS (hl.1.trans hml.symm) dX5_requireLayer_10 dX5_requireLayer_13 dX5_requireLayer_14 dX5_requireLayer_16 dX5_requireLayer_19 hnt (Nat.le_of_ble_eq_true rfl) (Nat.le_of_ble_eq_true rfl) (Nat.le_of_ble_eq_true rfl) (Nat.le_of_ble_eq_true rfl) hlocks
  · refine lv_iload_n hx hb dX5_requireLayer_4 rfl (lv_at hl 0 rfl) ?_
    refine lv_bipush (v := nI 10) hx hb dX5_requireLayer_5 (by decide) ?_
    refine ci_lt (tgt := 20) hx hb dX5_requireLayer_7 (by decide) rfl (nT (by omega)) (fun c_7 => by omega) (fun c_7 => ?_)
    obtain ⟨sa, hsa⟩ := hST.1.2.1
    exact thr9 (own := RX5) (cls := "java/lang/IndexOutOfBoundsException") (ik := 198) (is := 203) (ic := 202) hx hb hlst hown (by decide +kernel) (hts (.classLink RX5 198 "java/lang/IndexOutOfBoundsException") (by decide +kernel)) (hts (.initialized "java/lang/IndexOutOfBoundsException") (by decide +kernel)) hsa (fun w h => hts w (List.mem_cons_of_mem _ (List.mem_append_right _ h))) (by decide +kernel) hST.2.1.1.1 hST.2.2 (by decide +kernel) hSQ hP hD hS (hl.1.trans hml.symm) dX5_requireLayer_10 dX5_requireLayer_13 dX5_requireLayer_14 dX5_requireLayer_16 dX5_requireLayer_19 hnt (Nat.le_of_ble_eq_true rfl) (Nat.le_of_ble_eq_true rfl) (Nat.le_of_ble_eq_true rfl) (Nat.le_of_ble_eq_true rfl) hlocks
set_option maxHeartbeats 4000000 in
set_option maxRecDepth 100000 in
theorem x_X5_requireRange_bad (l : Launch) (hlst : l.stackTraces = false) (D : va_G) (cI cJ cZ : ClassId) (xx : Int32) (xlo : Nat) (xhi : Nat) (hbad : xx.toInt < xlo ∨ xhi < xx.toInt) (hlo : xlo < 100000) (hhi : xhi < 100000) (sz : Nat) : vx_Met l yX5_requireRange wsX5_requireRange ({ frames := 6, cells := 1, slots := 6, locals := 82 } : Room) (va_Pc [.int xx, .int (nI xlo), .int (nI xhi)] (xPre D cI cJ cZ [] sz)) XQv (XC9 D (va_A [] sz) [] "java/lang/IllegalArgumentException") 1 6 (va_A [] sz) := by
  refine vx_ofW (cc := cX5_requireRange) (maxL := 3) (ret := none) (by decide) rfl ?_
  intro p e s m args below meth c s₁ B hml hnt hv
  obtain ⟨hargs, ⟨hsz, hP, hT, hD0⟩, hST, hSQ⟩ := hv
  have hx := B.exec
  have hb := B.bytes
  have hr := B.returns
  have hts := atoms_spec (ws := wsX5_requireRange) B.pre
  have hown : s.vm.findClass RX5 = some m.cls := findClass_of_methodNamed B.named
  have hlocks := B.notSynchronized
  subst hsz
  have hK := hT.1
  have hD := hD0.self (sz := s.heap.size)
  generalize hAe : va_A [] s.heap.size = A at hD hSQ ⊢
  have hA : ∀ q : Nat, s.heap.size ≤ q → A q := fun q h => by rw [← hAe]; exact Or.inr h
  obtain ⟨H, hHe⟩ : ∃ H : Heap, H = s.heap := ⟨_, rfl⟩
  have hS : va_S A s.heap H [] := by rw [hHe]; exact va_S.rf
  rw [← hHe] at hP
  suffices K0 : W p l e (headSpec wsX5_requireRange ({ frames := 6, cells := 1, slots := 6, locals := 82 } : Room)).room s m args below meth c H [] 0 0 (vx_MQ below XQv (XC9 D A [] "java/lang/IllegalArgumentException") args s 1 6 A) (entryFrame m args 3) by rw [hHe] at K0; exact K0
  refine W.eq (g2 := entryFrame m ([.int xx, .int (nI xlo), .int (nI xhi)] : List Value).toArray 3) (by rw [hargs]) ?_
  have hl := lv_entry ([.int xx, .int (nI xlo), .int (nI xhi)]) (n := 3) (Nat.le_of_ble_eq_true rfl)
  rw [lg_entry_eq]
  generalize (lg_sl ([.int xx, .int (nI xlo), .int (nI xhi)]) ++ List.replicate (3 - (lg_sl ([.int xx, .int (nI xlo), .int (nI xhi)])).length) Slot.unset).toArray = ls at hl ⊢
  have hl : lv_has ls 3 [(0, .int xx), (1, .int (nI xlo)), (2, .int (nI xhi))] := hl
  generalize ([] : List Loc) = locs at hS ⊢
  refine lv_iload_n hx hb dX5_requireRange_0 rfl (lv_at hl 0 rfl) ?_
  refine lv_iload_n hx hb dX5_requireRange_1 rfl (lv_at hl 1 rfl) ?_
  refine ci_lt (tgt := 10) hx hb dX5_requireRange_2 (by decide) rfl (nT (by omega)) (fun c_2 => ?_) (fun c_2 => ?_)
  · obtain ⟨sa, hsa⟩ := hST.1.2.2.2.1
    exact thr9 (own := RX5) (cls := "java/lang/IllegalArgumentException") (ik := 207) (is := 209) (ic := 211) hx hb hlst hown (by decide +kernel) (hts (.classLink RX5 207 "java/lang/IllegalArgumentException") (by decide +kernel)) (hts (.initialized "java/lang/IllegalArgumentException") (by decide +kernel)) hsa (fun w h => hts w (List.mem_cons_of_mem _ (List.mem_append_right _ h))) (by decide +kernel) hST.2.1.1.2.1 hST.2.2 (by decide +kernel) hSQ hP hD hS (hl.1.trans hml.symm) dX5_requireRange_10 dX5_requireRange_13 dX5_requireRange_14 dX5_requireRange_16 dX5_requireRange_19 hnt (Nat.le_of_ble_eq_true rfl) (Nat.le_of_ble_eq_true rfl) (Nat.le_of_ble_eq_true rfl) (Nat.le_of_ble_eq_true rfl) hlocks
  · refine lv_iload_n hx hb dX5_requireRange_5 rfl (lv_at hl 0 rfl) ?_
    refine lv_iload_n hx hb dX5_requireRange_6 rfl (lv_at hl 2 rfl) ?_
    refine ci_le (tgt := 20) hx hb dX5_requireRange_7 (by decide) rfl (nT (by omega)) (fun c_7 => by omega) (fun c_7 => ?_)
    obtain ⟨sa, hsa⟩ := hST.1.2.2.2.1
    exact thr9 (own := RX5) (cls := "java/lang/IllegalArgumentException") (ik := 207) (is := 209) (ic := 211) hx hb hlst hown (by decide +kernel) (hts (.classLink RX5 207 "java/lang/IllegalArgumentException") (by decide +kernel)) (hts (.initialized "java/lang/IllegalArgumentException") (by decide +kernel)) hsa (fun w h => hts w (List.mem_cons_of_mem _ (List.mem_append_right _ h))) (by decide +kernel) hST.2.1.1.2.1 hST.2.2 (by decide +kernel) hSQ hP hD hS (hl.1.trans hml.symm) dX5_requireRange_10 dX5_requireRange_13 dX5_requireRange_14 dX5_requireRange_16 dX5_requireRange_19 hnt (Nat.le_of_ble_eq_true rfl) (Nat.le_of_ble_eq_true rfl) (Nat.le_of_ble_eq_true rfl) (Nat.le_of_ble_eq_true rfl) hlocks
set_option maxHeartbeats 4000000 in
set_option maxRecDepth 100000 in
theorem x_X5_requireGauge_bad (l : Launch) (hlst : l.stackTraces = false) (D : va_G) (cI cJ cZ : ClassId) (h0 : Nat) (ai : Nat) (pu : Nat) (pa : Nat) (ga : Nat) (sc : Nat) (hi : Nat) (gr : Nat) (me : Nat) (dp : Nat) (up : Bool) (mi : Nat) (ru : Nat) (wp : Int64) (wl : Int64) (g1 : Nat) (g2 : Nat) (g3 : Nat) (UP : Nat → Bool) (CL : Nat → Bool) (CO : Nat → Int64) (ki : Nat) (hki : ki < 20) (hup : UP ki = false) (sz : Nat) : vx_Met l yX5_requireGauge wsX5_requireGauge ({ frames := 6, cells := 1, slots := 6, locals := 82 } : Room) (va_Pc [.ref h0, .int (nI ki)] (xPre D cI cJ cZ [(h0, .inr (5, [.ref ai, .ref pu, .ref pa, .ref ga, .ref sc, .ref hi, .ref gr, .int (nI me), .int (nI dp), .int (bI up), .int (nI mi), .int (nI ru), .long wp, .long wl])), (ga, .inr (1, [.ref g1, .ref g2, .ref g3])), (g1, .inl (cZ, 20, .inl (bA UP))), (g2, .inl (cZ, 20, .inl (bA CL))), (g3, .inl (cJ, 20, .inr (.inl CO)))] sz)) XQv (XC9 D (va_A [(h0, .inr (5, [.ref ai, .ref pu, .ref pa, .ref ga, .ref sc, .ref hi, .ref gr, .int (nI me), .int (nI dp), .int (bI up), .int (nI mi), .int (nI ru), .long wp, .long wl])), (ga, .inr (1, [.ref g1, .ref g2, .ref g3])), (g1, .inl (cZ, 20, .inl (bA UP))), (g2, .inl (cZ, 20, .inl (bA CL))), (g3, .inl (cJ, 20, .inr (.inl CO)))] sz) [(h0, .inr (5, [.ref ai, .ref pu, .ref pa, .ref ga, .ref sc, .ref hi, .ref gr, .int (nI me), .int (nI dp), .int (bI up), .int (nI mi), .int (nI ru), .long wp, .long wl])), (ga, .inr (1, [.ref g1, .ref g2, .ref g3])), (g1, .inl (cZ, 20, .inl (bA UP))), (g2, .inl (cZ, 20, .inl (bA CL))), (g3, .inl (cJ, 20, .inr (.inl CO)))] "java/lang/IndexOutOfBoundsException") 1 6 (va_A [(h0, .inr (5, [.ref ai, .ref pu, .ref pa, .ref ga, .ref sc, .ref hi, .ref gr, .int (nI me), .int (nI dp), .int (bI up), .int (nI mi), .int (nI ru), .long wp, .long wl])), (ga, .inr (1, [.ref g1, .ref g2, .ref g3])), (g1, .inl (cZ, 20, .inl (bA UP))), (g2, .inl (cZ, 20, .inl (bA CL))), (g3, .inl (cJ, 20, .inr (.inl CO)))] sz) := by
  refine vx_ofW (cc := cX5_requireGauge) (maxL := 2) (ret := none) (by decide) rfl ?_
  intro p e s m args below meth c s₁ B hml hnt hv
  obtain ⟨hargs, ⟨hsz, hP, hT, hD0⟩, hST, hSQ⟩ := hv
  have hx := B.exec
  have hb := B.bytes
  have hr := B.returns
  have hts := atoms_spec (ws := wsX5_requireGauge) B.pre
  have hown : s.vm.findClass RX5 = some m.cls := findClass_of_methodNamed B.named
  have hlocks := B.notSynchronized
  subst hsz
  have hK := hT.1
  have hD := hD0.self (sz := s.heap.size)
  generalize hAe : va_A [(h0, .inr (5, [.ref ai, .ref pu, .ref pa, .ref ga, .ref sc, .ref hi, .ref gr, .int (nI me), .int (nI dp), .int (bI up), .int (nI mi), .int (nI ru), .long wp, .long wl])), (ga, .inr (1, [.ref g1, .ref g2, .ref g3])), (g1, .inl (cZ, 20, .inl (bA UP))), (g2, .inl (cZ, 20, .inl (bA CL))), (g3, .inl (cJ, 20, .inr (.inl CO)))] s.heap.size = A at hD hSQ ⊢
  have hA : ∀ q : Nat, s.heap.size ≤ q → A q := fun q h => by rw [← hAe]; exact Or.inr h
  obtain ⟨H, hHe⟩ : ∃ H : Heap, H = s.heap := ⟨_, rfl⟩
  have hS : va_S A s.heap H [] := by rw [hHe]; exact va_S.rf
  rw [← hHe] at hP
  suffices K0 : W p l e (headSpec wsX5_requireGauge ({ frames := 6, cells := 1, slots := 6, locals := 82 } : Room)).room s m args below meth c H [] 0 0 (vx_MQ below XQv (XC9 D A [(h0, .inr (5, [.ref ai, .ref pu, .ref pa, .ref ga, .ref sc, .ref hi, .ref gr, .int (nI me), .int (nI dp), .int (bI up), .int (nI mi), .int (nI ru), .long wp, .long wl])), (ga, .inr (1, [.ref g1, .ref g2, .ref g3])), (g1, .inl (cZ, 20, .inl (bA UP))), (g2, .inl (cZ, 20, .inl (bA CL))), (g3, .inl (cJ, 20, .inr (.inl CO)))] "java/lang/IndexOutOfBoundsException") args s 1 6 A) (entryFrame m args 2) by rw [hHe] at K0; exact K0
  refine W.eq (g2 := entryFrame m ([.ref h0, .int (nI ki)] : List Value).toArray 2) (by rw [hargs]) ?_
  have hl := lv_entry ([.ref h0, .int (nI ki)]) (n := 2) (Nat.le_of_ble_eq_true rfl)
  rw [lg_entry_eq]
  generalize (lg_sl ([.ref h0, .int (nI ki)]) ++ List.replicate (2 - (lg_sl ([.ref h0, .int (nI ki)])).length) Slot.unset).toArray = ls at hl ⊢
  have hl : lv_has ls 2 [(0, .ref h0), (1, .int (nI ki))] := hl
  generalize ([] : List Loc) = locs at hS ⊢
  have hinX5 : ∀ w ∈ wsX50, w ∈ wsX5_requireGauge := by decide +kernel
  have hf33 := hts (.fieldLink RX5 33 "Brightband" "gauges" "LBrightband$Gauges;") (by decide +kernel)
  refine lv_aload_n hx hb dX5_requireGauge_0 rfl (lv_at hl 0 rfl) ?_
  refine va_get (D := D) (ci := 5) (v := .ref ga) (C := RX5) (T := TX5) (N := 14) hx hb hts hinX5 hown hK hP 0 rfl rfl 3 (by decide) hf33 (fun _ h9 => h9) rfl dX5_requireGauge_1 ?_
  refine lv_iload_n hx hb dX5_requireGauge_4 rfl (lv_at hl 1 rfl) ?_
  refine cr_i (wc := [(ga, .inr (1, [.ref g1, .ref g2, .ref g3])), (g1, .inl (cZ, 20, .inl (bA UP))), (g2, .inl (cZ, 20, .inl (bA CL))), (g3, .inl (cJ, 20, .inr (.inl CO)))]) (w1 := [(ga, .inr (1, [.ref g1, .ref g2, .ref g3])), (g1, .inl (cZ, 20, .inl (bA UP))), (g2, .inl (cZ, 20, .inl (bA CL))), (g3, .inl (cJ, 20, .inr (.inl CO)))]) (ws2 := [(h0, .inr (5, [.ref ai, .ref pu, .ref pa, .ref ga, .ref sc, .ref hi, .ref gr, .int (nI me), .int (nI dp), .int (bI up), .int (nI mi), .int (nI ru), .long wp, .long wl])), (ga, .inr (1, [.ref g1, .ref g2, .ref g3])), (g1, .inl (cZ, 20, .inl (bA UP))), (g2, .inl (cZ, 20, .inl (bA CL))), (g3, .inl (cJ, 20, .inr (.inl CO)))]) hP hD hS hA [1, 2, 3, 4] rfl rfl rfl (va_runV (As := [.int (nI ki)]) (rest := []) ⟨hx, hb, hml, hown, hts⟩ (c_X1_isUp l D cI cJ cZ ga g1 g2 g3 UP CL CO ki (by omega) H.size) (cwV 1 hts gX5_requireGauge_X1_isUp rfl rfl rfl (by decide +kernel) ⟨Nat.le_of_ble_eq_true rfl, Nat.le_of_ble_eq_true rfl⟩) (pvV hT hP hD [1, 2, 3, 4] rfl rfl 0 rfl rfl) rfl rfl hl.1 rfl (lv_room (Nat.le_of_ble_eq_true rfl)) dX5_requireGauge_5 ⟨Nat.zero_le _, Nat.zero_le _⟩) (fun H locs hP hD hS => ?_)
  refine cb_ne (tgt := 21) hx hb dX5_requireGauge_8 (by decide) (fun c_8 => by rw [hup] at c_8; cases c_8) (fun c_8 => ?_)
  obtain ⟨sa, hsa⟩ := hST.1.2.2.1
  exact thr9 (own := RX5) (cls := "java/lang/IndexOutOfBoundsException") (ik := 198) (is := 205) (ic := 202) hx hb hlst hown (by decide +kernel) (hts (.classLink RX5 198 "java/lang/IndexOutOfBoundsException") (by decide +kernel)) (hts (.initialized "java/lang/IndexOutOfBoundsException") (by decide +kernel)) hsa (fun w h => hts w (List.mem_cons_of_mem _ (List.mem_append_right _ h))) (by decide +kernel) hST.2.1.1.1 hST.2.2 (by decide +kernel) hSQ hP hD hS (hl.1.trans hml.symm) dX5_requireGauge_11 dX5_requireGauge_14 dX5_requireGauge_15 dX5_requireGauge_17 dX5_requireGauge_20 hnt (Nat.le_of_ble_eq_true rfl) (Nat.le_of_ble_eq_true rfl) (Nat.le_of_ble_eq_true rfl) (Nat.le_of_ble_eq_true rfl) hlocks
set_option maxHeartbeats 4000000 in
set_option maxRecDepth 100000 in
theorem x_X5_drops_0 (l : Launch) (hlst : l.stackTraces = false) (D : va_G) (cI cJ cZ : ClassId) (h0 : Nat) (ai : Nat) (pu : Nat) (pa : Nat) (ga : Nat) (sc : Nat) (hi : Nat) (gr : Nat) (me : Nat) (dp : Nat) (up : Bool) (mi : Nat) (ru : Nat) (wp : Int64) (wl : Int64) (x0 : Int32) (x1 : Int32) (x2 : Int32) (x3 : Int32) (hbad : x0.toInt < 0 ∨ 20 ≤ x0.toInt) (sz : Nat) : vx_Met l yX5_drops wsX5_drops ({ frames := 7, cells := 1, slots := 6, locals := 102 } : Room) (va_Pc [.ref h0, .int x0, .int x1, .int x2, .int x3] (xPre D cI cJ cZ [(h0, .inr (5, [.ref ai, .ref pu, .ref pa, .ref ga, .ref sc, .ref hi, .ref gr, .int (nI me), .int (nI dp), .int (bI up), .int (nI mi), .int (nI ru), .long wp, .long wl]))] sz)) XQi (XC9 D (va_A [(h0, .inr (5, [.ref ai, .ref pu, .ref pa, .ref ga, .ref sc, .ref hi, .ref gr, .int (nI me), .int (nI dp), .int (bI up), .int (nI mi), .int (nI ru), .long wp, .long wl]))] sz) [(h0, .inr (5, [.ref ai, .ref pu, .ref pa, .ref ga, .ref sc, .ref hi, .ref gr, .int (nI me), .int (nI dp), .int (bI up), .int (nI mi), .int (nI ru), .long wp, .long wl]))] "java/lang/IndexOutOfBoundsException") 1 6 (va_A [(h0, .inr (5, [.ref ai, .ref pu, .ref pa, .ref ga, .ref sc, .ref hi, .ref gr, .int (nI me), .int (nI dp), .int (bI up), .int (nI mi), .int (nI ru), .long wp, .long wl]))] sz) := by
  refine vx_ofW (cc := cX5_drops) (maxL := 5) (ret := (some .int)) (by decide) rfl ?_
  intro p e s m args below meth c s₁ B hml hnt hv
  obtain ⟨hargs, ⟨hsz, hP, hT, hD0⟩, hST, hSQ⟩ := hv
  have hx := B.exec
  have hb := B.bytes
  have hr := B.returns
  have hts := atoms_spec (ws := wsX5_drops) B.pre
  have hown : s.vm.findClass RX5 = some m.cls := findClass_of_methodNamed B.named
  have hlocks := B.notSynchronized
  subst hsz
  have hK := hT.1
  have hD := hD0.self (sz := s.heap.size)
  generalize hAe : va_A [(h0, .inr (5, [.ref ai, .ref pu, .ref pa, .ref ga, .ref sc, .ref hi, .ref gr, .int (nI me), .int (nI dp), .int (bI up), .int (nI mi), .int (nI ru), .long wp, .long wl]))] s.heap.size = A at hD hSQ ⊢
  have hA : ∀ q : Nat, s.heap.size ≤ q → A q := fun q h => by rw [← hAe]; exact Or.inr h
  obtain ⟨H, hHe⟩ : ∃ H : Heap, H = s.heap := ⟨_, rfl⟩
  have hS : va_S A s.heap H [] := by rw [hHe]; exact va_S.rf
  rw [← hHe] at hP
  suffices K0 : W p l e (headSpec wsX5_drops ({ frames := 7, cells := 1, slots := 6, locals := 102 } : Room)).room s m args below meth c H [] 0 0 (vx_MQ below XQi (XC9 D A [(h0, .inr (5, [.ref ai, .ref pu, .ref pa, .ref ga, .ref sc, .ref hi, .ref gr, .int (nI me), .int (nI dp), .int (bI up), .int (nI mi), .int (nI ru), .long wp, .long wl]))] "java/lang/IndexOutOfBoundsException") args s 1 6 A) (entryFrame m args 5) by rw [hHe] at K0; exact K0
  refine W.eq (g2 := entryFrame m ([.ref h0, .int x0, .int x1, .int x2, .int x3] : List Value).toArray 5) (by rw [hargs]) ?_
  have hl := lv_entry ([.ref h0, .int x0, .int x1, .int x2, .int x3]) (n := 5) (Nat.le_of_ble_eq_true rfl)
  rw [lg_entry_eq]
  generalize (lg_sl ([.ref h0, .int x0, .int x1, .int x2, .int x3]) ++ List.replicate (5 - (lg_sl ([.ref h0, .int x0, .int x1, .int x2, .int x3])).length) Slot.unset).toArray = ls at hl ⊢
  have hl : lv_has ls 5 [(0, .ref h0), (1, .int x0), (2, .int x1), (3, .int x2), (4, .int x3)] := hl
  generalize ([] : List Loc) = locs at hS ⊢
  refine lv_iload_n hx hb dX5_drops_0 rfl (lv_at hl 1 rfl) ?_
  exact xo_v (wc := []) hnt hlocks hP hD hS hA [] rfl rfl (vx_runS (As := [.int x0]) (rest := []) ⟨hx, hb, hml, hown, hts⟩ (x_X5_requireKilometre_bad l hlst D cI cJ cZ x0 (by first | assumption | omega) H.size) (va_cwS 1 hts gX5_drops_X5_requireKilometre rfl rfl rfl (by decide +kernel) ⟨Nat.le_of_ble_eq_true rfl, Nat.le_of_ble_eq_true rfl⟩) (pxS (wc := []) hT hP hD hA [] rfl rfl hST hSQ hS) rfl rfl hl.1 rfl (lv_room (Nat.le_of_ble_eq_true rfl)) dX5_drops_1 ⟨Nat.le_of_ble_eq_true rfl, Nat.le_of_ble_eq_true rfl⟩)
set_option maxHeartbeats 4000000 in
set_option maxRecDepth 100000 in
theorem x_X5_drops_1 (l : Launch) (hlst : l.stackTraces = false) (D : va_G) (cI cJ cZ : ClassId) (h0 : Nat) (ai : Nat) (pu : Nat) (pa : Nat) (ga : Nat) (sc : Nat) (hi : Nat) (gr : Nat) (me : Nat) (dp : Nat) (up : Bool) (mi : Nat) (ru : Nat) (wp : Int64) (wl : Int64) (ki : Nat) (x1 : Int32) (x2 : Int32) (x3 : Int32) (hki : ki < 20) (hbad : x1.toInt < 0 ∨ 10 ≤ x1.toInt) (sz : Nat) : vx_Met l yX5_drops wsX5_drops ({ frames := 7, cells := 1, slots := 6, locals := 102 } : Room) (va_Pc [.ref h0, .int (nI ki), .int x1, .int x2, .int x3] (xPre D cI cJ cZ [(h0, .inr (5, [.ref ai, .ref pu, .ref pa, .ref ga, .ref sc, .ref hi, .ref gr, .int (nI me), .int (nI dp), .int (bI up), .int (nI mi), .int (nI ru), .long wp, .long wl]))] sz)) XQi (XC9 D (va_A [(h0, .inr (5, [.ref ai, .ref pu, .ref pa, .ref ga, .ref sc, .ref hi, .ref gr, .int (nI me), .int (nI dp), .int (bI up), .int (nI mi), .int (nI ru), .long wp, .long wl]))] sz) [(h0, .inr (5, [.ref ai, .ref pu, .ref pa, .ref ga, .ref sc, .ref hi, .ref gr, .int (nI me), .int (nI dp), .int (bI up), .int (nI mi), .int (nI ru), .long wp, .long wl]))] "java/lang/IndexOutOfBoundsException") 1 6 (va_A [(h0, .inr (5, [.ref ai, .ref pu, .ref pa, .ref ga, .ref sc, .ref hi, .ref gr, .int (nI me), .int (nI dp), .int (bI up), .int (nI mi), .int (nI ru), .long wp, .long wl]))] sz) := by
  refine vx_ofW (cc := cX5_drops) (maxL := 5) (ret := (some .int)) (by decide) rfl ?_
  intro p e s m args below meth c s₁ B hml hnt hv
  obtain ⟨hargs, ⟨hsz, hP, hT, hD0⟩, hST, hSQ⟩ := hv
  have hx := B.exec
  have hb := B.bytes
  have hr := B.returns
  have hts := atoms_spec (ws := wsX5_drops) B.pre
  have hown : s.vm.findClass RX5 = some m.cls := findClass_of_methodNamed B.named
  have hlocks := B.notSynchronized
  subst hsz
  have hK := hT.1
  have hD := hD0.self (sz := s.heap.size)
  generalize hAe : va_A [(h0, .inr (5, [.ref ai, .ref pu, .ref pa, .ref ga, .ref sc, .ref hi, .ref gr, .int (nI me), .int (nI dp), .int (bI up), .int (nI mi), .int (nI ru), .long wp, .long wl]))] s.heap.size = A at hD hSQ ⊢
  have hA : ∀ q : Nat, s.heap.size ≤ q → A q := fun q h => by rw [← hAe]; exact Or.inr h
  obtain ⟨H, hHe⟩ : ∃ H : Heap, H = s.heap := ⟨_, rfl⟩
  have hS : va_S A s.heap H [] := by rw [hHe]; exact va_S.rf
  rw [← hHe] at hP
  suffices K0 : W p l e (headSpec wsX5_drops ({ frames := 7, cells := 1, slots := 6, locals := 102 } : Room)).room s m args below meth c H [] 0 0 (vx_MQ below XQi (XC9 D A [(h0, .inr (5, [.ref ai, .ref pu, .ref pa, .ref ga, .ref sc, .ref hi, .ref gr, .int (nI me), .int (nI dp), .int (bI up), .int (nI mi), .int (nI ru), .long wp, .long wl]))] "java/lang/IndexOutOfBoundsException") args s 1 6 A) (entryFrame m args 5) by rw [hHe] at K0; exact K0
  refine W.eq (g2 := entryFrame m ([.ref h0, .int (nI ki), .int x1, .int x2, .int x3] : List Value).toArray 5) (by rw [hargs]) ?_
  have hl := lv_entry ([.ref h0, .int (nI ki), .int x1, .int x2, .int x3]) (n := 5) (Nat.le_of_ble_eq_true rfl)
  rw [lg_entry_eq]
  generalize (lg_sl ([.ref h0, .int (nI ki), .int x1, .int x2, .int x3]) ++ List.replicate (5 - (lg_sl ([.ref h0, .int (nI ki), .int x1, .int x2, .int x3])).length) Slot.unset).toArray = ls at hl ⊢
  have hl : lv_has ls 5 [(0, .ref h0), (1, .int (nI ki)), (2, .int x1), (3, .int x2), (4, .int x3)] := hl
  generalize ([] : List Loc) = locs at hS ⊢
  refine lv_iload_n hx hb dX5_drops_0 rfl (lv_at hl 1 rfl) ?_
  refine cr_v (wc := []) (w1 := []) (ws2 := [(h0, .inr (5, [.ref ai, .ref pu, .ref pa, .ref ga, .ref sc, .ref hi, .ref gr, .int (nI me), .int (nI dp), .int (bI up), .int (nI mi), .int (nI ru), .long wp, .long wl]))]) hP hD hS hA [] rfl rfl rfl (va_runS (As := [.int (nI ki)]) (rest := []) ⟨hx, hb, hml, hown, hts⟩ (c_X5_requireKilometre l D cI cJ cZ ki (by omega) H.size) (va_cwS 1 hts gX5_drops_X5_requireKilometre rfl rfl rfl (by decide +kernel) ⟨Nat.le_of_ble_eq_true rfl, Nat.le_of_ble_eq_true rfl⟩) (pvS hT hP hD [] rfl rfl) rfl rfl hl.1 rfl (lv_room (Nat.le_of_ble_eq_true rfl)) dX5_drops_1 ⟨Nat.zero_le _, Nat.zero_le _⟩) (fun H locs hP hD hS => ?_)
  refine lv_iload_n hx hb dX5_drops_4 rfl (lv_at hl 2 rfl) ?_
  exact xo_v (wc := []) hnt hlocks hP hD hS hA [] rfl rfl (vx_runS (As := [.int x1]) (rest := []) ⟨hx, hb, hml, hown, hts⟩ (x_X5_requireLayer_bad l hlst D cI cJ cZ x1 (by first | assumption | omega) H.size) (va_cwS 1 hts gX5_drops_X5_requireLayer rfl rfl rfl (by decide +kernel) ⟨Nat.le_of_ble_eq_true rfl, Nat.le_of_ble_eq_true rfl⟩) (pxS (wc := []) hT hP hD hA [] rfl rfl hST hSQ hS) rfl rfl hl.1 rfl (lv_room (Nat.le_of_ble_eq_true rfl)) dX5_drops_5 ⟨Nat.le_of_ble_eq_true rfl, Nat.le_of_ble_eq_true rfl⟩)
set_option maxHeartbeats 4000000 in
set_option maxRecDepth 100000 in
theorem x_X5_drops_2 (l : Launch) (hlst : l.stackTraces = false) (D : va_G) (cI cJ cZ : ClassId) (h0 : Nat) (ai : Nat) (pu : Nat) (pa : Nat) (ga : Nat) (sc : Nat) (hi : Nat) (gr : Nat) (me : Nat) (dp : Nat) (up : Bool) (mi : Nat) (ru : Nat) (wp : Int64) (wl : Int64) (ki : Nat) (la : Nat) (x2 : Int32) (x3 : Int32) (hki : ki < 20) (hla : la < 10) (hbad : x2.toInt < 1 ∨ 3 < x2.toInt) (sz : Nat) : vx_Met l yX5_drops wsX5_drops ({ frames := 7, cells := 1, slots := 6, locals := 104 } : Room) (va_Pc [.ref h0, .int (nI ki), .int (nI la), .int x2, .int x3] (xPre D cI cJ cZ [(h0, .inr (5, [.ref ai, .ref pu, .ref pa, .ref ga, .ref sc, .ref hi, .ref gr, .int (nI me), .int (nI dp), .int (bI up), .int (nI mi), .int (nI ru), .long wp, .long wl]))] sz)) XQi (XC9 D (va_A [(h0, .inr (5, [.ref ai, .ref pu, .ref pa, .ref ga, .ref sc, .ref hi, .ref gr, .int (nI me), .int (nI dp), .int (bI up), .int (nI mi), .int (nI ru), .long wp, .long wl]))] sz) [(h0, .inr (5, [.ref ai, .ref pu, .ref pa, .ref ga, .ref sc, .ref hi, .ref gr, .int (nI me), .int (nI dp), .int (bI up), .int (nI mi), .int (nI ru), .long wp, .long wl]))] "java/lang/IllegalArgumentException") 1 6 (va_A [(h0, .inr (5, [.ref ai, .ref pu, .ref pa, .ref ga, .ref sc, .ref hi, .ref gr, .int (nI me), .int (nI dp), .int (bI up), .int (nI mi), .int (nI ru), .long wp, .long wl]))] sz) := by
  refine vx_ofW (cc := cX5_drops) (maxL := 5) (ret := (some .int)) (by decide) rfl ?_
  intro p e s m args below meth c s₁ B hml hnt hv
  obtain ⟨hargs, ⟨hsz, hP, hT, hD0⟩, hST, hSQ⟩ := hv
  have hx := B.exec
  have hb := B.bytes
  have hr := B.returns
  have hts := atoms_spec (ws := wsX5_drops) B.pre
  have hown : s.vm.findClass RX5 = some m.cls := findClass_of_methodNamed B.named
  have hlocks := B.notSynchronized
  subst hsz
  have hK := hT.1
  have hD := hD0.self (sz := s.heap.size)
  generalize hAe : va_A [(h0, .inr (5, [.ref ai, .ref pu, .ref pa, .ref ga, .ref sc, .ref hi, .ref gr, .int (nI me), .int (nI dp), .int (bI up), .int (nI mi), .int (nI ru), .long wp, .long wl]))] s.heap.size = A at hD hSQ ⊢
  have hA : ∀ q : Nat, s.heap.size ≤ q → A q := fun q h => by rw [← hAe]; exact Or.inr h
  obtain ⟨H, hHe⟩ : ∃ H : Heap, H = s.heap := ⟨_, rfl⟩
  have hS : va_S A s.heap H [] := by rw [hHe]; exact va_S.rf
  rw [← hHe] at hP
  suffices K0 : W p l e (headSpec wsX5_drops ({ frames := 7, cells := 1, slots := 6, locals := 104 } : Room)).room s m args below meth c H [] 0 0 (vx_MQ below XQi (XC9 D A [(h0, .inr (5, [.ref ai, .ref pu, .ref pa, .ref ga, .ref sc, .ref hi, .ref gr, .int (nI me), .int (nI dp), .int (bI up), .int (nI mi), .int (nI ru), .long wp, .long wl]))] "java/lang/IllegalArgumentException") args s 1 6 A) (entryFrame m args 5) by rw [hHe] at K0; exact K0
  refine W.eq (g2 := entryFrame m ([.ref h0, .int (nI ki), .int (nI la), .int x2, .int x3] : List Value).toArray 5) (by rw [hargs]) ?_
  have hl := lv_entry ([.ref h0, .int (nI ki), .int (nI la), .int x2, .int x3]) (n := 5) (Nat.le_of_ble_eq_true rfl)
  rw [lg_entry_eq]
  generalize (lg_sl ([.ref h0, .int (nI ki), .int (nI la), .int x2, .int x3]) ++ List.replicate (5 - (lg_sl ([.ref h0, .int (nI ki), .int (nI la), .int x2, .int x3])).length) Slot.unset).toArray = ls at hl ⊢
  have hl : lv_has ls 5 [(0, .ref h0), (1, .int (nI ki)), (2, .int (nI la)), (3, .int x2), (4, .int x3)] := hl
  generalize ([] : List Loc) = locs at hS ⊢
  refine lv_iload_n hx hb dX5_drops_0 rfl (lv_at hl 1 rfl) ?_
  refine cr_v (wc := []) (w1 := []) (ws2 := [(h0, .inr (5, [.ref ai, .ref pu, .ref pa, .ref ga, .ref sc, .ref hi, .ref gr, .int (nI me), .int (nI dp), .int (bI up), .int (nI mi), .int (nI ru), .long wp, .long wl]))]) hP hD hS hA [] rfl rfl rfl (va_runS (As := [.int (nI ki)]) (rest := []) ⟨hx, hb, hml, hown, hts⟩ (c_X5_requireKilometre l D cI cJ cZ ki (by omega) H.size) (va_cwS 1 hts gX5_drops_X5_requireKilometre rfl rfl rfl (by decide +kernel) ⟨Nat.le_of_ble_eq_true rfl, Nat.le_of_ble_eq_true rfl⟩) (pvS hT hP hD [] rfl rfl) rfl rfl hl.1 rfl (lv_room (Nat.le_of_ble_eq_true rfl)) dX5_drops_1 ⟨Nat.zero_le _, Nat.zero_le _⟩) (fun H locs hP hD hS => ?_)
  refine lv_iload_n hx hb dX5_drops_4 rfl (lv_at hl 2 rfl) ?_
  refine cr_v (wc := []) (w1 := []) (ws2 := [(h0, .inr (5, [.ref ai, .ref pu, .ref pa, .ref ga, .ref sc, .ref hi, .ref gr, .int (nI me), .int (nI dp), .int (bI up), .int (nI mi), .int (nI ru), .long wp, .long wl]))]) hP hD hS hA [] rfl rfl rfl (va_runS (As := [.int (nI la)]) (rest := []) ⟨hx, hb, hml, hown, hts⟩ (c_X5_requireLayer l D cI cJ cZ la (by omega) H.size) (va_cwS 1 hts gX5_drops_X5_requireLayer rfl rfl rfl (by decide +kernel) ⟨Nat.le_of_ble_eq_true rfl, Nat.le_of_ble_eq_true rfl⟩) (pvS hT hP hD [] rfl rfl) rfl rfl hl.1 rfl (lv_room (Nat.le_of_ble_eq_true rfl)) dX5_drops_5 ⟨Nat.zero_le _, Nat.zero_le _⟩) (fun H locs hP hD hS => ?_)
  refine lv_iload_n hx hb dX5_drops_8 rfl (lv_at hl 3 rfl) ?_
  refine lv_iconst (v := nI 1) hx hb dX5_drops_9 (by decide) ?_
  refine lv_iconst (v := nI 3) hx hb dX5_drops_10 (by decide) ?_
  exact xo_v (wc := []) hnt hlocks hP hD hS hA [] rfl rfl (vx_runS (As := [.int x2, .int (nI 1), .int (nI 3)]) (rest := []) ⟨hx, hb, hml, hown, hts⟩ (x_X5_requireRange_bad l hlst D cI cJ cZ x2 1 3 (by first | assumption | omega) (by first | assumption | omega) (by first | assumption | omega) H.size) (va_cwS 3 hts gX5_drops_X5_requireRange rfl rfl rfl (by decide +kernel) ⟨Nat.le_of_ble_eq_true rfl, Nat.le_of_ble_eq_true rfl⟩) (pxS (wc := []) hT hP hD hA [] rfl rfl hST hSQ hS) rfl rfl hl.1 rfl (lv_room (Nat.le_of_ble_eq_true rfl)) dX5_drops_11 ⟨Nat.le_of_ble_eq_true rfl, Nat.le_of_ble_eq_true rfl⟩)
set_option maxHeartbeats 4000000 in
set_option maxRecDepth 100000 in
theorem x_X5_drops_3 (l : Launch) (hlst : l.stackTraces = false) (D : va_G) (cI cJ cZ : ClassId) (h0 : Nat) (ai : Nat) (pu : Nat) (pa : Nat) (ga : Nat) (sc : Nat) (hi : Nat) (gr : Nat) (me : Nat) (dp : Nat) (up : Bool) (mi : Nat) (ru : Nat) (wp : Int64) (wl : Int64) (ki : Nat) (la : Nat) (si : Nat) (x3 : Int32) (hki : ki < 20) (hla : la < 10) (h1si : 1 ≤ si) (h2si : si ≤ 3) (hbad : x3.toInt < 1 ∨ 1000 < x3.toInt) (sz : Nat) : vx_Met l yX5_drops wsX5_drops ({ frames := 7, cells := 1, slots := 6, locals := 104 } : Room) (va_Pc [.ref h0, .int (nI ki), .int (nI la), .int (nI si), .int x3] (xPre D cI cJ cZ [(h0, .inr (5, [.ref ai, .ref pu, .ref pa, .ref ga, .ref sc, .ref hi, .ref gr, .int (nI me), .int (nI dp), .int (bI up), .int (nI mi), .int (nI ru), .long wp, .long wl]))] sz)) XQi (XC9 D (va_A [(h0, .inr (5, [.ref ai, .ref pu, .ref pa, .ref ga, .ref sc, .ref hi, .ref gr, .int (nI me), .int (nI dp), .int (bI up), .int (nI mi), .int (nI ru), .long wp, .long wl]))] sz) [(h0, .inr (5, [.ref ai, .ref pu, .ref pa, .ref ga, .ref sc, .ref hi, .ref gr, .int (nI me), .int (nI dp), .int (bI up), .int (nI mi), .int (nI ru), .long wp, .long wl]))] "java/lang/IllegalArgumentException") 1 6 (va_A [(h0, .inr (5, [.ref ai, .ref pu, .ref pa, .ref ga, .ref sc, .ref hi, .ref gr, .int (nI me), .int (nI dp), .int (bI up), .int (nI mi), .int (nI ru), .long wp, .long wl]))] sz) := by
  refine vx_ofW (cc := cX5_drops) (maxL := 5) (ret := (some .int)) (by decide) rfl ?_
  intro p e s m args below meth c s₁ B hml hnt hv
  obtain ⟨hargs, ⟨hsz, hP, hT, hD0⟩, hST, hSQ⟩ := hv
  have hx := B.exec
  have hb := B.bytes
  have hr := B.returns
  have hts := atoms_spec (ws := wsX5_drops) B.pre
  have hown : s.vm.findClass RX5 = some m.cls := findClass_of_methodNamed B.named
  have hlocks := B.notSynchronized
  subst hsz
  have hK := hT.1
  have hD := hD0.self (sz := s.heap.size)
  generalize hAe : va_A [(h0, .inr (5, [.ref ai, .ref pu, .ref pa, .ref ga, .ref sc, .ref hi, .ref gr, .int (nI me), .int (nI dp), .int (bI up), .int (nI mi), .int (nI ru), .long wp, .long wl]))] s.heap.size = A at hD hSQ ⊢
  have hA : ∀ q : Nat, s.heap.size ≤ q → A q := fun q h => by rw [← hAe]; exact Or.inr h
  obtain ⟨H, hHe⟩ : ∃ H : Heap, H = s.heap := ⟨_, rfl⟩
  have hS : va_S A s.heap H [] := by rw [hHe]; exact va_S.rf
  rw [← hHe] at hP
  suffices K0 : W p l e (headSpec wsX5_drops ({ frames := 7, cells := 1, slots := 6, locals := 104 } : Room)).room s m args below meth c H [] 0 0 (vx_MQ below XQi (XC9 D A [(h0, .inr (5, [.ref ai, .ref pu, .ref pa, .ref ga, .ref sc, .ref hi, .ref gr, .int (nI me), .int (nI dp), .int (bI up), .int (nI mi), .int (nI ru), .long wp, .long wl]))] "java/lang/IllegalArgumentException") args s 1 6 A) (entryFrame m args 5) by rw [hHe] at K0; exact K0
  refine W.eq (g2 := entryFrame m ([.ref h0, .int (nI ki), .int (nI la), .int (nI si), .int x3] : List Value).toArray 5) (by rw [hargs]) ?_
  have hl := lv_entry ([.ref h0, .int (nI ki), .int (nI la), .int (nI si), .int x3]) (n := 5) (Nat.le_of_ble_eq_true rfl)
  rw [lg_entry_eq]
  generalize (lg_sl ([.ref h0, .int (nI ki), .int (nI la), .int (nI si), .int x3]) ++ List.replicate (5 - (lg_sl ([.ref h0, .int (nI ki), .int (nI la), .int (nI si), .int x3])).length) Slot.unset).toArray = ls at hl ⊢
  have hl : lv_has ls 5 [(0, .ref h0), (1, .int (nI ki)), (2, .int (nI la)), (3, .int (nI si)), (4, .int x3)] := hl
  generalize ([] : List Loc) = locs at hS ⊢
  refine lv_iload_n hx hb dX5_drops_0 rfl (lv_at hl 1 rfl) ?_
  refine cr_v (wc := []) (w1 := []) (ws2 := [(h0, .inr (5, [.ref ai, .ref pu, .ref pa, .ref ga, .ref sc, .ref hi, .ref gr, .int (nI me), .int (nI dp), .int (bI up), .int (nI mi), .int (nI ru), .long wp, .long wl]))]) hP hD hS hA [] rfl rfl rfl (va_runS (As := [.int (nI ki)]) (rest := []) ⟨hx, hb, hml, hown, hts⟩ (c_X5_requireKilometre l D cI cJ cZ ki (by omega) H.size) (va_cwS 1 hts gX5_drops_X5_requireKilometre rfl rfl rfl (by decide +kernel) ⟨Nat.le_of_ble_eq_true rfl, Nat.le_of_ble_eq_true rfl⟩) (pvS hT hP hD [] rfl rfl) rfl rfl hl.1 rfl (lv_room (Nat.le_of_ble_eq_true rfl)) dX5_drops_1 ⟨Nat.zero_le _, Nat.zero_le _⟩) (fun H locs hP hD hS => ?_)
  refine lv_iload_n hx hb dX5_drops_4 rfl (lv_at hl 2 rfl) ?_
  refine cr_v (wc := []) (w1 := []) (ws2 := [(h0, .inr (5, [.ref ai, .ref pu, .ref pa, .ref ga, .ref sc, .ref hi, .ref gr, .int (nI me), .int (nI dp), .int (bI up), .int (nI mi), .int (nI ru), .long wp, .long wl]))]) hP hD hS hA [] rfl rfl rfl (va_runS (As := [.int (nI la)]) (rest := []) ⟨hx, hb, hml, hown, hts⟩ (c_X5_requireLayer l D cI cJ cZ la (by omega) H.size) (va_cwS 1 hts gX5_drops_X5_requireLayer rfl rfl rfl (by decide +kernel) ⟨Nat.le_of_ble_eq_true rfl, Nat.le_of_ble_eq_true rfl⟩) (pvS hT hP hD [] rfl rfl) rfl rfl hl.1 rfl (lv_room (Nat.le_of_ble_eq_true rfl)) dX5_drops_5 ⟨Nat.zero_le _, Nat.zero_le _⟩) (fun H locs hP hD hS => ?_)
  refine lv_iload_n hx hb dX5_drops_8 rfl (lv_at hl 3 rfl) ?_
  refine lv_iconst (v := nI 1) hx hb dX5_drops_9 (by decide) ?_
  refine lv_iconst (v := nI 3) hx hb dX5_drops_10 (by decide) ?_
  refine cr_v (wc := []) (w1 := []) (ws2 := [(h0, .inr (5, [.ref ai, .ref pu, .ref pa, .ref ga, .ref sc, .ref hi, .ref gr, .int (nI me), .int (nI dp), .int (bI up), .int (nI mi), .int (nI ru), .long wp, .long wl]))]) hP hD hS hA [] rfl rfl rfl (va_runS (As := [.int (nI si), .int (nI 1), .int (nI 3)]) (rest := []) ⟨hx, hb, hml, hown, hts⟩ (c_X5_requireRange l D cI cJ cZ si 1 3 (by omega) (by omega) (by omega) H.size) (va_cwS 3 hts gX5_drops_X5_requireRange rfl rfl rfl (by decide +kernel) ⟨Nat.le_of_ble_eq_true rfl, Nat.le_of_ble_eq_true rfl⟩) (pvS hT hP hD [] rfl rfl) rfl rfl hl.1 rfl (lv_room (Nat.le_of_ble_eq_true rfl)) dX5_drops_11 ⟨Nat.zero_le _, Nat.zero_le _⟩) (fun H locs hP hD hS => ?_)
  refine lv_iload hx hb dX5_drops_14 (lv_at hl 4 rfl) ?_
  refine lv_iconst (v := nI 1) hx hb dX5_drops_16 (by decide) ?_
  refine lv_sipush (v := nI 1000) hx hb dX5_drops_17 (by decide) ?_
  exact xo_v (wc := []) hnt hlocks hP hD hS hA [] rfl rfl (vx_runS (As := [.int x3, .int (nI 1), .int (nI 1000)]) (rest := []) ⟨hx, hb, hml, hown, hts⟩ (x_X5_requireRange_bad l hlst D cI cJ cZ x3 1 1000 (by first | assumption | omega) (by first | assumption | omega) (by first | assumption | omega) H.size) (va_cwS 3 hts gX5_drops_X5_requireRange rfl rfl rfl (by decide +kernel) ⟨Nat.le_of_ble_eq_true rfl, Nat.le_of_ble_eq_true rfl⟩) (pxS (wc := []) hT hP hD hA [] rfl rfl hST hSQ hS) rfl rfl hl.1 rfl (lv_room (Nat.le_of_ble_eq_true rfl)) dX5_drops_20 ⟨Nat.le_of_ble_eq_true rfl, Nat.le_of_ble_eq_true rfl⟩)
set_option maxHeartbeats 4000000 in
set_option maxRecDepth 100000 in
theorem x_X5_drops_4 (l : Launch) (hlst : l.stackTraces = false) (D : va_G) (cI cJ cZ : ClassId) (h0 : Nat) (ai : Nat) (pu : Nat) (pa : Nat) (ga : Nat) (sc : Nat) (hi : Nat) (gr : Nat) (me : Nat) (dp : Nat) (up : Bool) (mi : Nat) (ru : Nat) (wp : Int64) (wl : Int64) (u1 : Nat) (u2 : Nat) (u3 : Nat) (u4 : Nat) (u5 : Nat) (PK : Nat → Nat) (PL : Nat → Nat) (PS : Nat → Nat) (PN : Nat → Nat) (PM : Nat → Nat) (pn : Nat) (ki : Nat) (la : Nat) (si : Nat) (mn : Nat) (hki : ki < 20) (hla : la < 10) (h1si : 1 ≤ si) (h2si : si ≤ 3) (h1mn : 1 ≤ mn) (h2mn : mn ≤ 1000) (hpn : 100 ≤ pn) (hpb : pn ≤ 100) (sz : Nat) : vx_Met l yX5_drops wsX5_drops ({ frames := 6, cells := 1, slots := 6, locals := 82 } : Room) (va_Pc [.ref h0, .int (nI ki), .int (nI la), .int (nI si), .int (nI mn)] (xPre D cI cJ cZ [(h0, .inr (5, [.ref ai, .ref pu, .ref pa, .ref ga, .ref sc, .ref hi, .ref gr, .int (nI me), .int (nI dp), .int (bI up), .int (nI mi), .int (nI ru), .long wp, .long wl])), (pu, .inr (3, [.ref u1, .ref u2, .ref u3, .ref u4, .ref u5, .int (nI pn)])), (u1, .inl (cI, 100, .inl (nA PK))), (u2, .inl (cI, 100, .inl (nA PL))), (u3, .inl (cI, 100, .inl (nA PS))), (u4, .inl (cI, 100, .inl (nA PN))), (u5, .inl (cI, 100, .inl (nA PM)))] sz)) XQi (XC9 D (va_A [(h0, .inr (5, [.ref ai, .ref pu, .ref pa, .ref ga, .ref sc, .ref hi, .ref gr, .int (nI me), .int (nI dp), .int (bI up), .int (nI mi), .int (nI ru), .long wp, .long wl])), (pu, .inr (3, [.ref u1, .ref u2, .ref u3, .ref u4, .ref u5, .int (nI pn)])), (u1, .inl (cI, 100, .inl (nA PK))), (u2, .inl (cI, 100, .inl (nA PL))), (u3, .inl (cI, 100, .inl (nA PS))), (u4, .inl (cI, 100, .inl (nA PN))), (u5, .inl (cI, 100, .inl (nA PM)))] sz) [(h0, .inr (5, [.ref ai, .ref pu, .ref pa, .ref ga, .ref sc, .ref hi, .ref gr, .int (nI me), .int (nI dp), .int (bI up), .int (nI mi), .int (nI ru), .long wp, .long wl])), (pu, .inr (3, [.ref u1, .ref u2, .ref u3, .ref u4, .ref u5, .int (nI pn)])), (u1, .inl (cI, 100, .inl (nA PK))), (u2, .inl (cI, 100, .inl (nA PL))), (u3, .inl (cI, 100, .inl (nA PS))), (u4, .inl (cI, 100, .inl (nA PN))), (u5, .inl (cI, 100, .inl (nA PM)))] "java/lang/IllegalStateException") 1 6 (va_A [(h0, .inr (5, [.ref ai, .ref pu, .ref pa, .ref ga, .ref sc, .ref hi, .ref gr, .int (nI me), .int (nI dp), .int (bI up), .int (nI mi), .int (nI ru), .long wp, .long wl])), (pu, .inr (3, [.ref u1, .ref u2, .ref u3, .ref u4, .ref u5, .int (nI pn)])), (u1, .inl (cI, 100, .inl (nA PK))), (u2, .inl (cI, 100, .inl (nA PL))), (u3, .inl (cI, 100, .inl (nA PS))), (u4, .inl (cI, 100, .inl (nA PN))), (u5, .inl (cI, 100, .inl (nA PM)))] sz) := by
  refine vx_ofW (cc := cX5_drops) (maxL := 5) (ret := (some .int)) (by decide) rfl ?_
  intro p e s m args below meth c s₁ B hml hnt hv
  obtain ⟨hargs, ⟨hsz, hP, hT, hD0⟩, hST, hSQ⟩ := hv
  have hx := B.exec
  have hb := B.bytes
  have hr := B.returns
  have hts := atoms_spec (ws := wsX5_drops) B.pre
  have hown : s.vm.findClass RX5 = some m.cls := findClass_of_methodNamed B.named
  have hlocks := B.notSynchronized
  subst hsz
  have hK := hT.1
  have hD := hD0.self (sz := s.heap.size)
  generalize hAe : va_A [(h0, .inr (5, [.ref ai, .ref pu, .ref pa, .ref ga, .ref sc, .ref hi, .ref gr, .int (nI me), .int (nI dp), .int (bI up), .int (nI mi), .int (nI ru), .long wp, .long wl])), (pu, .inr (3, [.ref u1, .ref u2, .ref u3, .ref u4, .ref u5, .int (nI pn)])), (u1, .inl (cI, 100, .inl (nA PK))), (u2, .inl (cI, 100, .inl (nA PL))), (u3, .inl (cI, 100, .inl (nA PS))), (u4, .inl (cI, 100, .inl (nA PN))), (u5, .inl (cI, 100, .inl (nA PM)))] s.heap.size = A at hD hSQ ⊢
  have hA : ∀ q : Nat, s.heap.size ≤ q → A q := fun q h => by rw [← hAe]; exact Or.inr h
  obtain ⟨H, hHe⟩ : ∃ H : Heap, H = s.heap := ⟨_, rfl⟩
  have hS : va_S A s.heap H [] := by rw [hHe]; exact va_S.rf
  rw [← hHe] at hP
  suffices K0 : W p l e (headSpec wsX5_drops ({ frames := 6, cells := 1, slots := 6, locals := 82 } : Room)).room s m args below meth c H [] 0 0 (vx_MQ below XQi (XC9 D A [(h0, .inr (5, [.ref ai, .ref pu, .ref pa, .ref ga, .ref sc, .ref hi, .ref gr, .int (nI me), .int (nI dp), .int (bI up), .int (nI mi), .int (nI ru), .long wp, .long wl])), (pu, .inr (3, [.ref u1, .ref u2, .ref u3, .ref u4, .ref u5, .int (nI pn)])), (u1, .inl (cI, 100, .inl (nA PK))), (u2, .inl (cI, 100, .inl (nA PL))), (u3, .inl (cI, 100, .inl (nA PS))), (u4, .inl (cI, 100, .inl (nA PN))), (u5, .inl (cI, 100, .inl (nA PM)))] "java/lang/IllegalStateException") args s 1 6 A) (entryFrame m args 5) by rw [hHe] at K0; exact K0
  refine W.eq (g2 := entryFrame m ([.ref h0, .int (nI ki), .int (nI la), .int (nI si), .int (nI mn)] : List Value).toArray 5) (by rw [hargs]) ?_
  have hl := lv_entry ([.ref h0, .int (nI ki), .int (nI la), .int (nI si), .int (nI mn)]) (n := 5) (Nat.le_of_ble_eq_true rfl)
  rw [lg_entry_eq]
  generalize (lg_sl ([.ref h0, .int (nI ki), .int (nI la), .int (nI si), .int (nI mn)]) ++ List.replicate (5 - (lg_sl ([.ref h0, .int (nI ki), .int (nI la), .int (nI si), .int (nI mn)])).length) Slot.unset).toArray = ls at hl ⊢
  have hl : lv_has ls 5 [(0, .ref h0), (1, .int (nI ki)), (2, .int (nI la)), (3, .int (nI si)), (4, .int (nI mn))] := hl
  generalize ([] : List Loc) = locs at hS ⊢
  have hinX5 : ∀ w ∈ wsX50, w ∈ wsX5_drops := by decide +kernel
  have hf19 := hts (.fieldLink RX5 19 "Brightband" "puts" "LBrightband$Puts;") (by decide +kernel)
  have hinX3 : ∀ w ∈ wsX30, w ∈ wsX5_drops := by decide +kernel
  refine lv_iload_n hx hb dX5_drops_0 rfl (lv_at hl 1 rfl) ?_
  refine cr_v (wc := []) (w1 := []) (ws2 := [(h0, .inr (5, [.ref ai, .ref pu, .ref pa, .ref ga, .ref sc, .ref hi, .ref gr, .int (nI me), .int (nI dp), .int (bI up), .int (nI mi), .int (nI ru), .long wp, .long wl])), (pu, .inr (3, [.ref u1, .ref u2, .ref u3, .ref u4, .ref u5, .int (nI pn)])), (u1, .inl (cI, 100, .inl (nA PK))), (u2, .inl (cI, 100, .inl (nA PL))), (u3, .inl (cI, 100, .inl (nA PS))), (u4, .inl (cI, 100, .inl (nA PN))), (u5, .inl (cI, 100, .inl (nA PM)))]) hP hD hS hA [] rfl rfl rfl (va_runS (As := [.int (nI ki)]) (rest := []) ⟨hx, hb, hml, hown, hts⟩ (c_X5_requireKilometre l D cI cJ cZ ki (by omega) H.size) (va_cwS 1 hts gX5_drops_X5_requireKilometre rfl rfl rfl (by decide +kernel) ⟨Nat.le_of_ble_eq_true rfl, Nat.le_of_ble_eq_true rfl⟩) (pvS hT hP hD [] rfl rfl) rfl rfl hl.1 rfl (lv_room (Nat.le_of_ble_eq_true rfl)) dX5_drops_1 ⟨Nat.zero_le _, Nat.zero_le _⟩) (fun H locs hP hD hS => ?_)
  refine lv_iload_n hx hb dX5_drops_4 rfl (lv_at hl 2 rfl) ?_
  refine cr_v (wc := []) (w1 := []) (ws2 := [(h0, .inr (5, [.ref ai, .ref pu, .ref pa, .ref ga, .ref sc, .ref hi, .ref gr, .int (nI me), .int (nI dp), .int (bI up), .int (nI mi), .int (nI ru), .long wp, .long wl])), (pu, .inr (3, [.ref u1, .ref u2, .ref u3, .ref u4, .ref u5, .int (nI pn)])), (u1, .inl (cI, 100, .inl (nA PK))), (u2, .inl (cI, 100, .inl (nA PL))), (u3, .inl (cI, 100, .inl (nA PS))), (u4, .inl (cI, 100, .inl (nA PN))), (u5, .inl (cI, 100, .inl (nA PM)))]) hP hD hS hA [] rfl rfl rfl (va_runS (As := [.int (nI la)]) (rest := []) ⟨hx, hb, hml, hown, hts⟩ (c_X5_requireLayer l D cI cJ cZ la (by omega) H.size) (va_cwS 1 hts gX5_drops_X5_requireLayer rfl rfl rfl (by decide +kernel) ⟨Nat.le_of_ble_eq_true rfl, Nat.le_of_ble_eq_true rfl⟩) (pvS hT hP hD [] rfl rfl) rfl rfl hl.1 rfl (lv_room (Nat.le_of_ble_eq_true rfl)) dX5_drops_5 ⟨Nat.zero_le _, Nat.zero_le _⟩) (fun H locs hP hD hS => ?_)
  refine lv_iload_n hx hb dX5_drops_8 rfl (lv_at hl 3 rfl) ?_
  refine lv_iconst (v := nI 1) hx hb dX5_drops_9 (by decide) ?_
  refine lv_iconst (v := nI 3) hx hb dX5_drops_10 (by decide) ?_
  refine cr_v (wc := []) (w1 := []) (ws2 := [(h0, .inr (5, [.ref ai, .ref pu, .ref pa, .ref ga, .ref sc, .ref hi, .ref gr, .int (nI me), .int (nI dp), .int (bI up), .int (nI mi), .int (nI ru), .long wp, .long wl])), (pu, .inr (3, [.ref u1, .ref u2, .ref u3, .ref u4, .ref u5, .int (nI pn)])), (u1, .inl (cI, 100, .inl (nA PK))), (u2, .inl (cI, 100, .inl (nA PL))), (u3, .inl (cI, 100, .inl (nA PS))), (u4, .inl (cI, 100, .inl (nA PN))), (u5, .inl (cI, 100, .inl (nA PM)))]) hP hD hS hA [] rfl rfl rfl (va_runS (As := [.int (nI si), .int (nI 1), .int (nI 3)]) (rest := []) ⟨hx, hb, hml, hown, hts⟩ (c_X5_requireRange l D cI cJ cZ si 1 3 (by omega) (by omega) (by omega) H.size) (va_cwS 3 hts gX5_drops_X5_requireRange rfl rfl rfl (by decide +kernel) ⟨Nat.le_of_ble_eq_true rfl, Nat.le_of_ble_eq_true rfl⟩) (pvS hT hP hD [] rfl rfl) rfl rfl hl.1 rfl (lv_room (Nat.le_of_ble_eq_true rfl)) dX5_drops_11 ⟨Nat.zero_le _, Nat.zero_le _⟩) (fun H locs hP hD hS => ?_)
  refine lv_iload hx hb dX5_drops_14 (lv_at hl 4 rfl) ?_
  refine lv_iconst (v := nI 1) hx hb dX5_drops_16 (by decide) ?_
  refine lv_sipush (v := nI 1000) hx hb dX5_drops_17 (by decide) ?_
  refine cr_v (wc := []) (w1 := []) (ws2 := [(h0, .inr (5, [.ref ai, .ref pu, .ref pa, .ref ga, .ref sc, .ref hi, .ref gr, .int (nI me), .int (nI dp), .int (bI up), .int (nI mi), .int (nI ru), .long wp, .long wl])), (pu, .inr (3, [.ref u1, .ref u2, .ref u3, .ref u4, .ref u5, .int (nI pn)])), (u1, .inl (cI, 100, .inl (nA PK))), (u2, .inl (cI, 100, .inl (nA PL))), (u3, .inl (cI, 100, .inl (nA PS))), (u4, .inl (cI, 100, .inl (nA PN))), (u5, .inl (cI, 100, .inl (nA PM)))]) hP hD hS hA [] rfl rfl rfl (va_runS (As := [.int (nI mn), .int (nI 1), .int (nI 1000)]) (rest := []) ⟨hx, hb, hml, hown, hts⟩ (c_X5_requireRange l D cI cJ cZ mn 1 1000 (by omega) (by omega) (by omega) H.size) (va_cwS 3 hts gX5_drops_X5_requireRange rfl rfl rfl (by decide +kernel) ⟨Nat.le_of_ble_eq_true rfl, Nat.le_of_ble_eq_true rfl⟩) (pvS hT hP hD [] rfl rfl) rfl rfl hl.1 rfl (lv_room (Nat.le_of_ble_eq_true rfl)) dX5_drops_20 ⟨Nat.zero_le _, Nat.zero_le _⟩) (fun H locs hP hD hS => ?_)
  refine lv_aload_n hx hb dX5_drops_23 rfl (lv_at hl 0 rfl) ?_
  refine va_get (D := D) (ci := 5) (v := .ref pu) (C := RX5) (T := TX5) (N := 14) hx hb hts hinX5 hown hK hP 0 rfl rfl 1 (by decide) hf19 (fun _ h9 => h9) rfl dX5_drops_24 ?_
  refine va_getN (D := D) (ci := 3) (v := .int (nI pn)) (C := RX3) (T := TX3) (N := 6) hx hb hts hinX3 hown hK hP 1 rfl rfl 5 (by decide) (va_Nw.use rfl hT.2.2.2.2.2.2.2.2.2.2) (fun _ h9 => h9) rfl dX5_drops_27 ?_
  refine lv_bipush (v := nI 100) hx hb dX5_drops_30 (by decide) ?_
  refine ci_lt (tgt := 45) hx hb dX5_drops_32 (by decide) (nT (by omega)) (nT (by omega)) (fun c_32 => by omega) (fun c_32 => ?_)
  obtain ⟨sa, hsa⟩ := hST.1.2.2.2.2.1
  exact thr9 (own := RX5) (cls := "java/lang/IllegalStateException") (ik := 90) (is := 92) (ic := 94) hx hb hlst hown (by decide +kernel) (hts (.classLink RX5 90 "java/lang/IllegalStateException") (by decide +kernel)) (hts (.initialized "java/lang/IllegalStateException") (by decide +kernel)) hsa (fun w h => hts w (List.mem_cons_of_mem _ (List.mem_append_left _ (List.mem_append_left _ (List.mem_append_right _ h))))) (by decide +kernel) hST.2.1.1.2.2 hST.2.2 (by decide +kernel) hSQ hP hD hS (hl.1.trans hml.symm) dX5_drops_35 dX5_drops_38 dX5_drops_39 dX5_drops_41 dX5_drops_44 hnt (Nat.le_of_ble_eq_true rfl) (Nat.le_of_ble_eq_true rfl) (Nat.le_of_ble_eq_true rfl) (Nat.le_of_ble_eq_true rfl) hlocks
set_option maxHeartbeats 4000000 in
set_option maxRecDepth 100000 in
theorem x_X5_melt_0 (l : Launch) (hlst : l.stackTraces = false) (D : va_G) (cI cJ cZ : ClassId) (h0 : Nat) (ai : Nat) (pu : Nat) (pa : Nat) (ga : Nat) (sc : Nat) (hi : Nat) (gr : Nat) (me : Nat) (dp : Nat) (up : Bool) (mi : Nat) (ru : Nat) (wp : Int64) (wl : Int64) (x0 : Int32) (hbad : x0.toInt < 0 ∨ 10 ≤ x0.toInt) (sz : Nat) : vx_Met l yX5_melt wsX5_melt ({ frames := 7, cells := 1, slots := 6, locals := 102 } : Room) (va_Pc [.ref h0, .int x0] (xPre D cI cJ cZ [(h0, .inr (5, [.ref ai, .ref pu, .ref pa, .ref ga, .ref sc, .ref hi, .ref gr, .int (nI me), .int (nI dp), .int (bI up), .int (nI mi), .int (nI ru), .long wp, .long wl]))] sz)) XQi (XC9 D (va_A [(h0, .inr (5, [.ref ai, .ref pu, .ref pa, .ref ga, .ref sc, .ref hi, .ref gr, .int (nI me), .int (nI dp), .int (bI up), .int (nI mi), .int (nI ru), .long wp, .long wl]))] sz) [(h0, .inr (5, [.ref ai, .ref pu, .ref pa, .ref ga, .ref sc, .ref hi, .ref gr, .int (nI me), .int (nI dp), .int (bI up), .int (nI mi), .int (nI ru), .long wp, .long wl]))] "java/lang/IndexOutOfBoundsException") 1 6 (va_A [(h0, .inr (5, [.ref ai, .ref pu, .ref pa, .ref ga, .ref sc, .ref hi, .ref gr, .int (nI me), .int (nI dp), .int (bI up), .int (nI mi), .int (nI ru), .long wp, .long wl]))] sz) := by
  refine vx_ofW (cc := cX5_melt) (maxL := 3) (ret := (some .int)) (by decide) rfl ?_
  intro p e s m args below meth c s₁ B hml hnt hv
  obtain ⟨hargs, ⟨hsz, hP, hT, hD0⟩, hST, hSQ⟩ := hv
  have hx := B.exec
  have hb := B.bytes
  have hr := B.returns
  have hts := atoms_spec (ws := wsX5_melt) B.pre
  have hown : s.vm.findClass RX5 = some m.cls := findClass_of_methodNamed B.named
  have hlocks := B.notSynchronized
  subst hsz
  have hK := hT.1
  have hD := hD0.self (sz := s.heap.size)
  generalize hAe : va_A [(h0, .inr (5, [.ref ai, .ref pu, .ref pa, .ref ga, .ref sc, .ref hi, .ref gr, .int (nI me), .int (nI dp), .int (bI up), .int (nI mi), .int (nI ru), .long wp, .long wl]))] s.heap.size = A at hD hSQ ⊢
  have hA : ∀ q : Nat, s.heap.size ≤ q → A q := fun q h => by rw [← hAe]; exact Or.inr h
  obtain ⟨H, hHe⟩ : ∃ H : Heap, H = s.heap := ⟨_, rfl⟩
  have hS : va_S A s.heap H [] := by rw [hHe]; exact va_S.rf
  rw [← hHe] at hP
  suffices K0 : W p l e (headSpec wsX5_melt ({ frames := 7, cells := 1, slots := 6, locals := 102 } : Room)).room s m args below meth c H [] 0 0 (vx_MQ below XQi (XC9 D A [(h0, .inr (5, [.ref ai, .ref pu, .ref pa, .ref ga, .ref sc, .ref hi, .ref gr, .int (nI me), .int (nI dp), .int (bI up), .int (nI mi), .int (nI ru), .long wp, .long wl]))] "java/lang/IndexOutOfBoundsException") args s 1 6 A) (entryFrame m args 3) by rw [hHe] at K0; exact K0
  refine W.eq (g2 := entryFrame m ([.ref h0, .int x0] : List Value).toArray 3) (by rw [hargs]) ?_
  have hl := lv_entry ([.ref h0, .int x0]) (n := 3) (Nat.le_of_ble_eq_true rfl)
  rw [lg_entry_eq]
  generalize (lg_sl ([.ref h0, .int x0]) ++ List.replicate (3 - (lg_sl ([.ref h0, .int x0])).length) Slot.unset).toArray = ls at hl ⊢
  have hl : lv_has ls 3 [(0, .ref h0), (1, .int x0)] := hl
  generalize ([] : List Loc) = locs at hS ⊢
  refine lv_iload_n hx hb dX5_melt_0 rfl (lv_at hl 1 rfl) ?_
  exact xo_v (wc := []) hnt hlocks hP hD hS hA [] rfl rfl (vx_runS (As := [.int x0]) (rest := []) ⟨hx, hb, hml, hown, hts⟩ (x_X5_requireLayer_bad l hlst D cI cJ cZ x0 (by first | assumption | omega) H.size) (va_cwS 1 hts gX5_melt_X5_requireLayer rfl rfl rfl (by decide +kernel) ⟨Nat.le_of_ble_eq_true rfl, Nat.le_of_ble_eq_true rfl⟩) (pxS (wc := []) hT hP hD hA [] rfl rfl hST hSQ hS) rfl rfl hl.1 rfl (lv_room (Nat.le_of_ble_eq_true rfl)) dX5_melt_1 ⟨Nat.le_of_ble_eq_true rfl, Nat.le_of_ble_eq_true rfl⟩)
set_option maxHeartbeats 4000000 in
set_option maxRecDepth 100000 in
theorem x_X5_hill_0 (l : Launch) (hlst : l.stackTraces = false) (D : va_G) (cI cJ cZ : ClassId) (h0 : Nat) (ai : Nat) (pu : Nat) (pa : Nat) (ga : Nat) (sc : Nat) (hi : Nat) (gr : Nat) (me : Nat) (dp : Nat) (up : Bool) (mi : Nat) (ru : Nat) (wp : Int64) (wl : Int64) (x0 : Int32) (x1 : Int32) (hbad : x0.toInt < 0 ∨ 20 ≤ x0.toInt) (sz : Nat) : vx_Met l yX5_hill wsX5_hill ({ frames := 7, cells := 1, slots := 6, locals := 102 } : Room) (va_Pc [.ref h0, .int x0, .int x1] (xPre D cI cJ cZ [(h0, .inr (5, [.ref ai, .ref pu, .ref pa, .ref ga, .ref sc, .ref hi, .ref gr, .int (nI me), .int (nI dp), .int (bI up), .int (nI mi), .int (nI ru), .long wp, .long wl]))] sz)) XQi (XC9 D (va_A [(h0, .inr (5, [.ref ai, .ref pu, .ref pa, .ref ga, .ref sc, .ref hi, .ref gr, .int (nI me), .int (nI dp), .int (bI up), .int (nI mi), .int (nI ru), .long wp, .long wl]))] sz) [(h0, .inr (5, [.ref ai, .ref pu, .ref pa, .ref ga, .ref sc, .ref hi, .ref gr, .int (nI me), .int (nI dp), .int (bI up), .int (nI mi), .int (nI ru), .long wp, .long wl]))] "java/lang/IndexOutOfBoundsException") 1 6 (va_A [(h0, .inr (5, [.ref ai, .ref pu, .ref pa, .ref ga, .ref sc, .ref hi, .ref gr, .int (nI me), .int (nI dp), .int (bI up), .int (nI mi), .int (nI ru), .long wp, .long wl]))] sz) := by
  refine vx_ofW (cc := cX5_hill) (maxL := 4) (ret := (some .int)) (by decide) rfl ?_
  intro p e s m args below meth c s₁ B hml hnt hv
  obtain ⟨hargs, ⟨hsz, hP, hT, hD0⟩, hST, hSQ⟩ := hv
  have hx := B.exec
  have hb := B.bytes
  have hr := B.returns
  have hts := atoms_spec (ws := wsX5_hill) B.pre
  have hown : s.vm.findClass RX5 = some m.cls := findClass_of_methodNamed B.named
  have hlocks := B.notSynchronized
  subst hsz
  have hK := hT.1
  have hD := hD0.self (sz := s.heap.size)
  generalize hAe : va_A [(h0, .inr (5, [.ref ai, .ref pu, .ref pa, .ref ga, .ref sc, .ref hi, .ref gr, .int (nI me), .int (nI dp), .int (bI up), .int (nI mi), .int (nI ru), .long wp, .long wl]))] s.heap.size = A at hD hSQ ⊢
  have hA : ∀ q : Nat, s.heap.size ≤ q → A q := fun q h => by rw [← hAe]; exact Or.inr h
  obtain ⟨H, hHe⟩ : ∃ H : Heap, H = s.heap := ⟨_, rfl⟩
  have hS : va_S A s.heap H [] := by rw [hHe]; exact va_S.rf
  rw [← hHe] at hP
  suffices K0 : W p l e (headSpec wsX5_hill ({ frames := 7, cells := 1, slots := 6, locals := 102 } : Room)).room s m args below meth c H [] 0 0 (vx_MQ below XQi (XC9 D A [(h0, .inr (5, [.ref ai, .ref pu, .ref pa, .ref ga, .ref sc, .ref hi, .ref gr, .int (nI me), .int (nI dp), .int (bI up), .int (nI mi), .int (nI ru), .long wp, .long wl]))] "java/lang/IndexOutOfBoundsException") args s 1 6 A) (entryFrame m args 4) by rw [hHe] at K0; exact K0
  refine W.eq (g2 := entryFrame m ([.ref h0, .int x0, .int x1] : List Value).toArray 4) (by rw [hargs]) ?_
  have hl := lv_entry ([.ref h0, .int x0, .int x1]) (n := 4) (Nat.le_of_ble_eq_true rfl)
  rw [lg_entry_eq]
  generalize (lg_sl ([.ref h0, .int x0, .int x1]) ++ List.replicate (4 - (lg_sl ([.ref h0, .int x0, .int x1])).length) Slot.unset).toArray = ls at hl ⊢
  have hl : lv_has ls 4 [(0, .ref h0), (1, .int x0), (2, .int x1)] := hl
  generalize ([] : List Loc) = locs at hS ⊢
  refine lv_iload_n hx hb dX5_hill_0 rfl (lv_at hl 1 rfl) ?_
  exact xo_v (wc := []) hnt hlocks hP hD hS hA [] rfl rfl (vx_runS (As := [.int x0]) (rest := []) ⟨hx, hb, hml, hown, hts⟩ (x_X5_requireKilometre_bad l hlst D cI cJ cZ x0 (by first | assumption | omega) H.size) (va_cwS 1 hts gX5_hill_X5_requireKilometre rfl rfl rfl (by decide +kernel) ⟨Nat.le_of_ble_eq_true rfl, Nat.le_of_ble_eq_true rfl⟩) (pxS (wc := []) hT hP hD hA [] rfl rfl hST hSQ hS) rfl rfl hl.1 rfl (lv_room (Nat.le_of_ble_eq_true rfl)) dX5_hill_1 ⟨Nat.le_of_ble_eq_true rfl, Nat.le_of_ble_eq_true rfl⟩)
set_option maxHeartbeats 4000000 in
set_option maxRecDepth 100000 in
theorem x_X5_hill_1 (l : Launch) (hlst : l.stackTraces = false) (D : va_G) (cI cJ cZ : ClassId) (h0 : Nat) (ai : Nat) (pu : Nat) (pa : Nat) (ga : Nat) (sc : Nat) (hi : Nat) (gr : Nat) (me : Nat) (dp : Nat) (up : Bool) (mi : Nat) (ru : Nat) (wp : Int64) (wl : Int64) (ki : Nat) (x1 : Int32) (hki : ki < 20) (hbad : x1.toInt < 0 ∨ 9 < x1.toInt) (sz : Nat) : vx_Met l yX5_hill wsX5_hill ({ frames := 7, cells := 1, slots := 6, locals := 104 } : Room) (va_Pc [.ref h0, .int (nI ki), .int x1] (xPre D cI cJ cZ [(h0, .inr (5, [.ref ai, .ref pu, .ref pa, .ref ga, .ref sc, .ref hi, .ref gr, .int (nI me), .int (nI dp), .int (bI up), .int (nI mi), .int (nI ru), .long wp, .long wl]))] sz)) XQi (XC9 D (va_A [(h0, .inr (5, [.ref ai, .ref pu, .ref pa, .ref ga, .ref sc, .ref hi, .ref gr, .int (nI me), .int (nI dp), .int (bI up), .int (nI mi), .int (nI ru), .long wp, .long wl]))] sz) [(h0, .inr (5, [.ref ai, .ref pu, .ref pa, .ref ga, .ref sc, .ref hi, .ref gr, .int (nI me), .int (nI dp), .int (bI up), .int (nI mi), .int (nI ru), .long wp, .long wl]))] "java/lang/IllegalArgumentException") 1 6 (va_A [(h0, .inr (5, [.ref ai, .ref pu, .ref pa, .ref ga, .ref sc, .ref hi, .ref gr, .int (nI me), .int (nI dp), .int (bI up), .int (nI mi), .int (nI ru), .long wp, .long wl]))] sz) := by
  refine vx_ofW (cc := cX5_hill) (maxL := 4) (ret := (some .int)) (by decide) rfl ?_
  intro p e s m args below meth c s₁ B hml hnt hv
  obtain ⟨hargs, ⟨hsz, hP, hT, hD0⟩, hST, hSQ⟩ := hv
  have hx := B.exec
  have hb := B.bytes
  have hr := B.returns
  have hts := atoms_spec (ws := wsX5_hill) B.pre
  have hown : s.vm.findClass RX5 = some m.cls := findClass_of_methodNamed B.named
  have hlocks := B.notSynchronized
  subst hsz
  have hK := hT.1
  have hD := hD0.self (sz := s.heap.size)
  generalize hAe : va_A [(h0, .inr (5, [.ref ai, .ref pu, .ref pa, .ref ga, .ref sc, .ref hi, .ref gr, .int (nI me), .int (nI dp), .int (bI up), .int (nI mi), .int (nI ru), .long wp, .long wl]))] s.heap.size = A at hD hSQ ⊢
  have hA : ∀ q : Nat, s.heap.size ≤ q → A q := fun q h => by rw [← hAe]; exact Or.inr h
  obtain ⟨H, hHe⟩ : ∃ H : Heap, H = s.heap := ⟨_, rfl⟩
  have hS : va_S A s.heap H [] := by rw [hHe]; exact va_S.rf
  rw [← hHe] at hP
  suffices K0 : W p l e (headSpec wsX5_hill ({ frames := 7, cells := 1, slots := 6, locals := 104 } : Room)).room s m args below meth c H [] 0 0 (vx_MQ below XQi (XC9 D A [(h0, .inr (5, [.ref ai, .ref pu, .ref pa, .ref ga, .ref sc, .ref hi, .ref gr, .int (nI me), .int (nI dp), .int (bI up), .int (nI mi), .int (nI ru), .long wp, .long wl]))] "java/lang/IllegalArgumentException") args s 1 6 A) (entryFrame m args 4) by rw [hHe] at K0; exact K0
  refine W.eq (g2 := entryFrame m ([.ref h0, .int (nI ki), .int x1] : List Value).toArray 4) (by rw [hargs]) ?_
  have hl := lv_entry ([.ref h0, .int (nI ki), .int x1]) (n := 4) (Nat.le_of_ble_eq_true rfl)
  rw [lg_entry_eq]
  generalize (lg_sl ([.ref h0, .int (nI ki), .int x1]) ++ List.replicate (4 - (lg_sl ([.ref h0, .int (nI ki), .int x1])).length) Slot.unset).toArray = ls at hl ⊢
  have hl : lv_has ls 4 [(0, .ref h0), (1, .int (nI ki)), (2, .int x1)] := hl
  generalize ([] : List Loc) = locs at hS ⊢
  refine lv_iload_n hx hb dX5_hill_0 rfl (lv_at hl 1 rfl) ?_
  refine cr_v (wc := []) (w1 := []) (ws2 := [(h0, .inr (5, [.ref ai, .ref pu, .ref pa, .ref ga, .ref sc, .ref hi, .ref gr, .int (nI me), .int (nI dp), .int (bI up), .int (nI mi), .int (nI ru), .long wp, .long wl]))]) hP hD hS hA [] rfl rfl rfl (va_runS (As := [.int (nI ki)]) (rest := []) ⟨hx, hb, hml, hown, hts⟩ (c_X5_requireKilometre l D cI cJ cZ ki (by omega) H.size) (va_cwS 1 hts gX5_hill_X5_requireKilometre rfl rfl rfl (by decide +kernel) ⟨Nat.le_of_ble_eq_true rfl, Nat.le_of_ble_eq_true rfl⟩) (pvS hT hP hD [] rfl rfl) rfl rfl hl.1 rfl (lv_room (Nat.le_of_ble_eq_true rfl)) dX5_hill_1 ⟨Nat.zero_le _, Nat.zero_le _⟩) (fun H locs hP hD hS => ?_)
  refine lv_iload_n hx hb dX5_hill_4 rfl (lv_at hl 2 rfl) ?_
  refine lv_iconst (v := nI 0) hx hb dX5_hill_5 (by decide) ?_
  refine lv_bipush (v := nI 9) hx hb dX5_hill_6 (by decide) ?_
  exact xo_v (wc := []) hnt hlocks hP hD hS hA [] rfl rfl (vx_runS (As := [.int x1, .int (nI 0), .int (nI 9)]) (rest := []) ⟨hx, hb, hml, hown, hts⟩ (x_X5_requireRange_bad l hlst D cI cJ cZ x1 0 9 (by first | assumption | omega) (by first | assumption | omega) (by first | assumption | omega) H.size) (va_cwS 3 hts gX5_hill_X5_requireRange rfl rfl rfl (by decide +kernel) ⟨Nat.le_of_ble_eq_true rfl, Nat.le_of_ble_eq_true rfl⟩) (pxS (wc := []) hT hP hD hA [] rfl rfl hST hSQ hS) rfl rfl hl.1 rfl (lv_room (Nat.le_of_ble_eq_true rfl)) dX5_hill_8 ⟨Nat.le_of_ble_eq_true rfl, Nat.le_of_ble_eq_true rfl⟩)
set_option maxHeartbeats 4000000 in
set_option maxRecDepth 100000 in
theorem x_X5_drift_0 (l : Launch) (hlst : l.stackTraces = false) (D : va_G) (cI cJ cZ : ClassId) (h0 : Nat) (ai : Nat) (pu : Nat) (pa : Nat) (ga : Nat) (sc : Nat) (hi : Nat) (gr : Nat) (me : Nat) (dp : Nat) (up : Bool) (mi : Nat) (ru : Nat) (wp : Int64) (wl : Int64) (x0 : Int32) (bb : Bool) (hbad : x0.toInt < 0 ∨ 60 < x0.toInt) (sz : Nat) : vx_Met l yX5_drift wsX5_drift ({ frames := 7, cells := 1, slots := 6, locals := 104 } : Room) (va_Pc [.ref h0, .int x0, .int (bI bb)] (xPre D cI cJ cZ [(h0, .inr (5, [.ref ai, .ref pu, .ref pa, .ref ga, .ref sc, .ref hi, .ref gr, .int (nI me), .int (nI dp), .int (bI up), .int (nI mi), .int (nI ru), .long wp, .long wl]))] sz)) XQi (XC9 D (va_A [(h0, .inr (5, [.ref ai, .ref pu, .ref pa, .ref ga, .ref sc, .ref hi, .ref gr, .int (nI me), .int (nI dp), .int (bI up), .int (nI mi), .int (nI ru), .long wp, .long wl]))] sz) [(h0, .inr (5, [.ref ai, .ref pu, .ref pa, .ref ga, .ref sc, .ref hi, .ref gr, .int (nI me), .int (nI dp), .int (bI up), .int (nI mi), .int (nI ru), .long wp, .long wl]))] "java/lang/IllegalArgumentException") 1 6 (va_A [(h0, .inr (5, [.ref ai, .ref pu, .ref pa, .ref ga, .ref sc, .ref hi, .ref gr, .int (nI me), .int (nI dp), .int (bI up), .int (nI mi), .int (nI ru), .long wp, .long wl]))] sz) := by
  refine vx_ofW (cc := cX5_drift) (maxL := 4) (ret := (some .int)) (by decide) rfl ?_
  intro p e s m args below meth c s₁ B hml hnt hv
  obtain ⟨hargs, ⟨hsz, hP, hT, hD0⟩, hST, hSQ⟩ := hv
  have hx := B.exec
  have hb := B.bytes
  have hr := B.returns
  have hts := atoms_spec (ws := wsX5_drift) B.pre
  have hown : s.vm.findClass RX5 = some m.cls := findClass_of_methodNamed B.named
  have hlocks := B.notSynchronized
  subst hsz
  have hK := hT.1
  have hD := hD0.self (sz := s.heap.size)
  generalize hAe : va_A [(h0, .inr (5, [.ref ai, .ref pu, .ref pa, .ref ga, .ref sc, .ref hi, .ref gr, .int (nI me), .int (nI dp), .int (bI up), .int (nI mi), .int (nI ru), .long wp, .long wl]))] s.heap.size = A at hD hSQ ⊢
  have hA : ∀ q : Nat, s.heap.size ≤ q → A q := fun q h => by rw [← hAe]; exact Or.inr h
  obtain ⟨H, hHe⟩ : ∃ H : Heap, H = s.heap := ⟨_, rfl⟩
  have hS : va_S A s.heap H [] := by rw [hHe]; exact va_S.rf
  rw [← hHe] at hP
  suffices K0 : W p l e (headSpec wsX5_drift ({ frames := 7, cells := 1, slots := 6, locals := 104 } : Room)).room s m args below meth c H [] 0 0 (vx_MQ below XQi (XC9 D A [(h0, .inr (5, [.ref ai, .ref pu, .ref pa, .ref ga, .ref sc, .ref hi, .ref gr, .int (nI me), .int (nI dp), .int (bI up), .int (nI mi), .int (nI ru), .long wp, .long wl]))] "java/lang/IllegalArgumentException") args s 1 6 A) (entryFrame m args 4) by rw [hHe] at K0; exact K0
  refine W.eq (g2 := entryFrame m ([.ref h0, .int x0, .int (bI bb)] : List Value).toArray 4) (by rw [hargs]) ?_
  have hl := lv_entry ([.ref h0, .int x0, .int (bI bb)]) (n := 4) (Nat.le_of_ble_eq_true rfl)
  rw [lg_entry_eq]
  generalize (lg_sl ([.ref h0, .int x0, .int (bI bb)]) ++ List.replicate (4 - (lg_sl ([.ref h0, .int x0, .int (bI bb)])).length) Slot.unset).toArray = ls at hl ⊢
  have hl : lv_has ls 4 [(0, .ref h0), (1, .int x0), (2, .int (bI bb))] := hl
  generalize ([] : List Loc) = locs at hS ⊢
  refine lv_iload_n hx hb dX5_drift_0 rfl (lv_at hl 1 rfl) ?_
  refine lv_iconst (v := nI 0) hx hb dX5_drift_1 (by decide) ?_
  refine lv_bipush (v := nI 60) hx hb dX5_drift_2 (by decide) ?_
  exact xo_v (wc := []) hnt hlocks hP hD hS hA [] rfl rfl (vx_runS (As := [.int x0, .int (nI 0), .int (nI 60)]) (rest := []) ⟨hx, hb, hml, hown, hts⟩ (x_X5_requireRange_bad l hlst D cI cJ cZ x0 0 60 (by first | assumption | omega) (by first | assumption | omega) (by first | assumption | omega) H.size) (va_cwS 3 hts gX5_drift_X5_requireRange rfl rfl rfl (by decide +kernel) ⟨Nat.le_of_ble_eq_true rfl, Nat.le_of_ble_eq_true rfl⟩) (pxS (wc := []) hT hP hD hA [] rfl rfl hST hSQ hS) rfl rfl hl.1 rfl (lv_room (Nat.le_of_ble_eq_true rfl)) dX5_drift_4 ⟨Nat.le_of_ble_eq_true rfl, Nat.le_of_ble_eq_true rfl⟩)
set_option maxHeartbeats 4000000 in
set_option maxRecDepth 100000 in
theorem x_X5_gauge_0 (l : Launch) (hlst : l.stackTraces = false) (D : va_G) (cI cJ cZ : ClassId) (h0 : Nat) (ai : Nat) (pu : Nat) (pa : Nat) (ga : Nat) (sc : Nat) (hi : Nat) (gr : Nat) (me : Nat) (dp : Nat) (up : Bool) (mi : Nat) (ru : Nat) (wp : Int64) (wl : Int64) (x0 : Int32) (bb : Bool) (hbad : x0.toInt < 0 ∨ 20 ≤ x0.toInt) (sz : Nat) : vx_Met l yX5_gauge wsX5_gauge ({ frames := 7, cells := 1, slots := 6, locals := 102 } : Room) (va_Pc [.ref h0, .int x0, .int (bI bb)] (xPre D cI cJ cZ [(h0, .inr (5, [.ref ai, .ref pu, .ref pa, .ref ga, .ref sc, .ref hi, .ref gr, .int (nI me), .int (nI dp), .int (bI up), .int (nI mi), .int (nI ru), .long wp, .long wl]))] sz)) XQi (XC9 D (va_A [(h0, .inr (5, [.ref ai, .ref pu, .ref pa, .ref ga, .ref sc, .ref hi, .ref gr, .int (nI me), .int (nI dp), .int (bI up), .int (nI mi), .int (nI ru), .long wp, .long wl]))] sz) [(h0, .inr (5, [.ref ai, .ref pu, .ref pa, .ref ga, .ref sc, .ref hi, .ref gr, .int (nI me), .int (nI dp), .int (bI up), .int (nI mi), .int (nI ru), .long wp, .long wl]))] "java/lang/IndexOutOfBoundsException") 1 6 (va_A [(h0, .inr (5, [.ref ai, .ref pu, .ref pa, .ref ga, .ref sc, .ref hi, .ref gr, .int (nI me), .int (nI dp), .int (bI up), .int (nI mi), .int (nI ru), .long wp, .long wl]))] sz) := by
  refine vx_ofW (cc := cX5_gauge) (maxL := 4) (ret := (some .boolean)) (by decide) rfl ?_
  intro p e s m args below meth c s₁ B hml hnt hv
  obtain ⟨hargs, ⟨hsz, hP, hT, hD0⟩, hST, hSQ⟩ := hv
  have hx := B.exec
  have hb := B.bytes
  have hr := B.returns
  have hts := atoms_spec (ws := wsX5_gauge) B.pre
  have hown : s.vm.findClass RX5 = some m.cls := findClass_of_methodNamed B.named
  have hlocks := B.notSynchronized
  subst hsz
  have hK := hT.1
  have hD := hD0.self (sz := s.heap.size)
  generalize hAe : va_A [(h0, .inr (5, [.ref ai, .ref pu, .ref pa, .ref ga, .ref sc, .ref hi, .ref gr, .int (nI me), .int (nI dp), .int (bI up), .int (nI mi), .int (nI ru), .long wp, .long wl]))] s.heap.size = A at hD hSQ ⊢
  have hA : ∀ q : Nat, s.heap.size ≤ q → A q := fun q h => by rw [← hAe]; exact Or.inr h
  obtain ⟨H, hHe⟩ : ∃ H : Heap, H = s.heap := ⟨_, rfl⟩
  have hS : va_S A s.heap H [] := by rw [hHe]; exact va_S.rf
  rw [← hHe] at hP
  suffices K0 : W p l e (headSpec wsX5_gauge ({ frames := 7, cells := 1, slots := 6, locals := 102 } : Room)).room s m args below meth c H [] 0 0 (vx_MQ below XQi (XC9 D A [(h0, .inr (5, [.ref ai, .ref pu, .ref pa, .ref ga, .ref sc, .ref hi, .ref gr, .int (nI me), .int (nI dp), .int (bI up), .int (nI mi), .int (nI ru), .long wp, .long wl]))] "java/lang/IndexOutOfBoundsException") args s 1 6 A) (entryFrame m args 4) by rw [hHe] at K0; exact K0
  refine W.eq (g2 := entryFrame m ([.ref h0, .int x0, .int (bI bb)] : List Value).toArray 4) (by rw [hargs]) ?_
  have hl := lv_entry ([.ref h0, .int x0, .int (bI bb)]) (n := 4) (Nat.le_of_ble_eq_true rfl)
  rw [lg_entry_eq]
  generalize (lg_sl ([.ref h0, .int x0, .int (bI bb)]) ++ List.replicate (4 - (lg_sl ([.ref h0, .int x0, .int (bI bb)])).length) Slot.unset).toArray = ls at hl ⊢
  have hl : lv_has ls 4 [(0, .ref h0), (1, .int x0), (2, .int (bI bb))] := hl
  generalize ([] : List Loc) = locs at hS ⊢
  refine lv_iload_n hx hb dX5_gauge_0 rfl (lv_at hl 1 rfl) ?_
  exact xo_v (wc := []) hnt hlocks hP hD hS hA [] rfl rfl (vx_runS (As := [.int x0]) (rest := []) ⟨hx, hb, hml, hown, hts⟩ (x_X5_requireKilometre_bad l hlst D cI cJ cZ x0 (by first | assumption | omega) H.size) (va_cwS 1 hts gX5_gauge_X5_requireKilometre rfl rfl rfl (by decide +kernel) ⟨Nat.le_of_ble_eq_true rfl, Nat.le_of_ble_eq_true rfl⟩) (pxS (wc := []) hT hP hD hA [] rfl rfl hST hSQ hS) rfl rfl hl.1 rfl (lv_room (Nat.le_of_ble_eq_true rfl)) dX5_gauge_1 ⟨Nat.le_of_ble_eq_true rfl, Nat.le_of_ble_eq_true rfl⟩)
set_option maxHeartbeats 4000000 in
set_option maxRecDepth 100000 in
theorem x_X5_clog_0 (l : Launch) (hlst : l.stackTraces = false) (D : va_G) (cI cJ cZ : ClassId) (h0 : Nat) (ai : Nat) (pu : Nat) (pa : Nat) (ga : Nat) (sc : Nat) (hi : Nat) (gr : Nat) (me : Nat) (dp : Nat) (up : Bool) (mi : Nat) (ru : Nat) (wp : Int64) (wl : Int64) (x0 : Int32) (bb : Bool) (hbad : x0.toInt < 0 ∨ 20 ≤ x0.toInt) (sz : Nat) : vx_Met l yX5_clog wsX5_clog ({ frames := 7, cells := 1, slots := 6, locals := 102 } : Room) (va_Pc [.ref h0, .int x0, .int (bI bb)] (xPre D cI cJ cZ [(h0, .inr (5, [.ref ai, .ref pu, .ref pa, .ref ga, .ref sc, .ref hi, .ref gr, .int (nI me), .int (nI dp), .int (bI up), .int (nI mi), .int (nI ru), .long wp, .long wl]))] sz)) XQi (XC9 D (va_A [(h0, .inr (5, [.ref ai, .ref pu, .ref pa, .ref ga, .ref sc, .ref hi, .ref gr, .int (nI me), .int (nI dp), .int (bI up), .int (nI mi), .int (nI ru), .long wp, .long wl]))] sz) [(h0, .inr (5, [.ref ai, .ref pu, .ref pa, .ref ga, .ref sc, .ref hi, .ref gr, .int (nI me), .int (nI dp), .int (bI up), .int (nI mi), .int (nI ru), .long wp, .long wl]))] "java/lang/IndexOutOfBoundsException") 1 6 (va_A [(h0, .inr (5, [.ref ai, .ref pu, .ref pa, .ref ga, .ref sc, .ref hi, .ref gr, .int (nI me), .int (nI dp), .int (bI up), .int (nI mi), .int (nI ru), .long wp, .long wl]))] sz) := by
  refine vx_ofW (cc := cX5_clog) (maxL := 4) (ret := (some .boolean)) (by decide) rfl ?_
  intro p e s m args below meth c s₁ B hml hnt hv
  obtain ⟨hargs, ⟨hsz, hP, hT, hD0⟩, hST, hSQ⟩ := hv
  have hx := B.exec
  have hb := B.bytes
  have hr := B.returns
  have hts := atoms_spec (ws := wsX5_clog) B.pre
  have hown : s.vm.findClass RX5 = some m.cls := findClass_of_methodNamed B.named
  have hlocks := B.notSynchronized
  subst hsz
  have hK := hT.1
  have hD := hD0.self (sz := s.heap.size)
  generalize hAe : va_A [(h0, .inr (5, [.ref ai, .ref pu, .ref pa, .ref ga, .ref sc, .ref hi, .ref gr, .int (nI me), .int (nI dp), .int (bI up), .int (nI mi), .int (nI ru), .long wp, .long wl]))] s.heap.size = A at hD hSQ ⊢
  have hA : ∀ q : Nat, s.heap.size ≤ q → A q := fun q h => by rw [← hAe]; exact Or.inr h
  obtain ⟨H, hHe⟩ : ∃ H : Heap, H = s.heap := ⟨_, rfl⟩
  have hS : va_S A s.heap H [] := by rw [hHe]; exact va_S.rf
  rw [← hHe] at hP
  suffices K0 : W p l e (headSpec wsX5_clog ({ frames := 7, cells := 1, slots := 6, locals := 102 } : Room)).room s m args below meth c H [] 0 0 (vx_MQ below XQi (XC9 D A [(h0, .inr (5, [.ref ai, .ref pu, .ref pa, .ref ga, .ref sc, .ref hi, .ref gr, .int (nI me), .int (nI dp), .int (bI up), .int (nI mi), .int (nI ru), .long wp, .long wl]))] "java/lang/IndexOutOfBoundsException") args s 1 6 A) (entryFrame m args 4) by rw [hHe] at K0; exact K0
  refine W.eq (g2 := entryFrame m ([.ref h0, .int x0, .int (bI bb)] : List Value).toArray 4) (by rw [hargs]) ?_
  have hl := lv_entry ([.ref h0, .int x0, .int (bI bb)]) (n := 4) (Nat.le_of_ble_eq_true rfl)
  rw [lg_entry_eq]
  generalize (lg_sl ([.ref h0, .int x0, .int (bI bb)]) ++ List.replicate (4 - (lg_sl ([.ref h0, .int x0, .int (bI bb)])).length) Slot.unset).toArray = ls at hl ⊢
  have hl : lv_has ls 4 [(0, .ref h0), (1, .int x0), (2, .int (bI bb))] := hl
  generalize ([] : List Loc) = locs at hS ⊢
  refine lv_iload_n hx hb dX5_clog_0 rfl (lv_at hl 1 rfl) ?_
  exact xo_v (wc := []) hnt hlocks hP hD hS hA [] rfl rfl (vx_runS (As := [.int x0]) (rest := []) ⟨hx, hb, hml, hown, hts⟩ (x_X5_requireKilometre_bad l hlst D cI cJ cZ x0 (by first | assumption | omega) H.size) (va_cwS 1 hts gX5_clog_X5_requireKilometre rfl rfl rfl (by decide +kernel) ⟨Nat.le_of_ble_eq_true rfl, Nat.le_of_ble_eq_true rfl⟩) (pxS (wc := []) hT hP hD hA [] rfl rfl hST hSQ hS) rfl rfl hl.1 rfl (lv_room (Nat.le_of_ble_eq_true rfl)) dX5_clog_1 ⟨Nat.le_of_ble_eq_true rfl, Nat.le_of_ble_eq_true rfl⟩)
set_option maxHeartbeats 4000000 in
set_option maxRecDepth 100000 in
theorem x_X5_clog_1 (l : Launch) (hlst : l.stackTraces = false) (D : va_G) (cI cJ cZ : ClassId) (h0 : Nat) (ai : Nat) (pu : Nat) (pa : Nat) (ga : Nat) (sc : Nat) (hi : Nat) (gr : Nat) (me : Nat) (dp : Nat) (up : Bool) (mi : Nat) (ru : Nat) (wp : Int64) (wl : Int64) (g1 : Nat) (g2 : Nat) (g3 : Nat) (UP : Nat → Bool) (CL : Nat → Bool) (CO : Nat → Int64) (ki : Nat) (bb : Bool) (hki : ki < 20) (hup : UP ki = false) (sz : Nat) : vx_Met l yX5_clog wsX5_clog ({ frames := 7, cells := 1, slots := 6, locals := 103 } : Room) (va_Pc [.ref h0, .int (nI ki), .int (bI bb)] (xPre D cI cJ cZ [(h0, .inr (5, [.ref ai, .ref pu, .ref pa, .ref ga, .ref sc, .ref hi, .ref gr, .int (nI me), .int (nI dp), .int (bI up), .int (nI mi), .int (nI ru), .long wp, .long wl])), (ga, .inr (1, [.ref g1, .ref g2, .ref g3])), (g1, .inl (cZ, 20, .inl (bA UP))), (g2, .inl (cZ, 20, .inl (bA CL))), (g3, .inl (cJ, 20, .inr (.inl CO)))] sz)) XQi (XC9 D (va_A [(h0, .inr (5, [.ref ai, .ref pu, .ref pa, .ref ga, .ref sc, .ref hi, .ref gr, .int (nI me), .int (nI dp), .int (bI up), .int (nI mi), .int (nI ru), .long wp, .long wl])), (ga, .inr (1, [.ref g1, .ref g2, .ref g3])), (g1, .inl (cZ, 20, .inl (bA UP))), (g2, .inl (cZ, 20, .inl (bA CL))), (g3, .inl (cJ, 20, .inr (.inl CO)))] sz) [(h0, .inr (5, [.ref ai, .ref pu, .ref pa, .ref ga, .ref sc, .ref hi, .ref gr, .int (nI me), .int (nI dp), .int (bI up), .int (nI mi), .int (nI ru), .long wp, .long wl])), (ga, .inr (1, [.ref g1, .ref g2, .ref g3])), (g1, .inl (cZ, 20, .inl (bA UP))), (g2, .inl (cZ, 20, .inl (bA CL))), (g3, .inl (cJ, 20, .inr (.inl CO)))] "java/lang/IndexOutOfBoundsException") 1 6 (va_A [(h0, .inr (5, [.ref ai, .ref pu, .ref pa, .ref ga, .ref sc, .ref hi, .ref gr, .int (nI me), .int (nI dp), .int (bI up), .int (nI mi), .int (nI ru), .long wp, .long wl])), (ga, .inr (1, [.ref g1, .ref g2, .ref g3])), (g1, .inl (cZ, 20, .inl (bA UP))), (g2, .inl (cZ, 20, .inl (bA CL))), (g3, .inl (cJ, 20, .inr (.inl CO)))] sz) := by
  refine vx_ofW (cc := cX5_clog) (maxL := 4) (ret := (some .boolean)) (by decide) rfl ?_
  intro p e s m args below meth c s₁ B hml hnt hv
  obtain ⟨hargs, ⟨hsz, hP, hT, hD0⟩, hST, hSQ⟩ := hv
  have hx := B.exec
  have hb := B.bytes
  have hr := B.returns
  have hts := atoms_spec (ws := wsX5_clog) B.pre
  have hown : s.vm.findClass RX5 = some m.cls := findClass_of_methodNamed B.named
  have hlocks := B.notSynchronized
  subst hsz
  have hK := hT.1
  have hD := hD0.self (sz := s.heap.size)
  generalize hAe : va_A [(h0, .inr (5, [.ref ai, .ref pu, .ref pa, .ref ga, .ref sc, .ref hi, .ref gr, .int (nI me), .int (nI dp), .int (bI up), .int (nI mi), .int (nI ru), .long wp, .long wl])), (ga, .inr (1, [.ref g1, .ref g2, .ref g3])), (g1, .inl (cZ, 20, .inl (bA UP))), (g2, .inl (cZ, 20, .inl (bA CL))), (g3, .inl (cJ, 20, .inr (.inl CO)))] s.heap.size = A at hD hSQ ⊢
  have hA : ∀ q : Nat, s.heap.size ≤ q → A q := fun q h => by rw [← hAe]; exact Or.inr h
  obtain ⟨H, hHe⟩ : ∃ H : Heap, H = s.heap := ⟨_, rfl⟩
  have hS : va_S A s.heap H [] := by rw [hHe]; exact va_S.rf
  rw [← hHe] at hP
  suffices K0 : W p l e (headSpec wsX5_clog ({ frames := 7, cells := 1, slots := 6, locals := 103 } : Room)).room s m args below meth c H [] 0 0 (vx_MQ below XQi (XC9 D A [(h0, .inr (5, [.ref ai, .ref pu, .ref pa, .ref ga, .ref sc, .ref hi, .ref gr, .int (nI me), .int (nI dp), .int (bI up), .int (nI mi), .int (nI ru), .long wp, .long wl])), (ga, .inr (1, [.ref g1, .ref g2, .ref g3])), (g1, .inl (cZ, 20, .inl (bA UP))), (g2, .inl (cZ, 20, .inl (bA CL))), (g3, .inl (cJ, 20, .inr (.inl CO)))] "java/lang/IndexOutOfBoundsException") args s 1 6 A) (entryFrame m args 4) by rw [hHe] at K0; exact K0
  refine W.eq (g2 := entryFrame m ([.ref h0, .int (nI ki), .int (bI bb)] : List Value).toArray 4) (by rw [hargs]) ?_
  have hl := lv_entry ([.ref h0, .int (nI ki), .int (bI bb)]) (n := 4) (Nat.le_of_ble_eq_true rfl)
  rw [lg_entry_eq]
  generalize (lg_sl ([.ref h0, .int (nI ki), .int (bI bb)]) ++ List.replicate (4 - (lg_sl ([.ref h0, .int (nI ki), .int (bI bb)])).length) Slot.unset).toArray = ls at hl ⊢
  have hl : lv_has ls 4 [(0, .ref h0), (1, .int (nI ki)), (2, .int (bI bb))] := hl
  generalize ([] : List Loc) = locs at hS ⊢
  refine lv_iload_n hx hb dX5_clog_0 rfl (lv_at hl 1 rfl) ?_
  refine cr_v (wc := []) (w1 := []) (ws2 := [(h0, .inr (5, [.ref ai, .ref pu, .ref pa, .ref ga, .ref sc, .ref hi, .ref gr, .int (nI me), .int (nI dp), .int (bI up), .int (nI mi), .int (nI ru), .long wp, .long wl])), (ga, .inr (1, [.ref g1, .ref g2, .ref g3])), (g1, .inl (cZ, 20, .inl (bA UP))), (g2, .inl (cZ, 20, .inl (bA CL))), (g3, .inl (cJ, 20, .inr (.inl CO)))]) hP hD hS hA [] rfl rfl rfl (va_runS (As := [.int (nI ki)]) (rest := []) ⟨hx, hb, hml, hown, hts⟩ (c_X5_requireKilometre l D cI cJ cZ ki (by omega) H.size) (va_cwS 1 hts gX5_clog_X5_requireKilometre rfl rfl rfl (by decide +kernel) ⟨Nat.le_of_ble_eq_true rfl, Nat.le_of_ble_eq_true rfl⟩) (pvS hT hP hD [] rfl rfl) rfl rfl hl.1 rfl (lv_room (Nat.le_of_ble_eq_true rfl)) dX5_clog_1 ⟨Nat.zero_le _, Nat.zero_le _⟩) (fun H locs hP hD hS => ?_)
  refine lv_aload_n hx hb dX5_clog_4 rfl (lv_at hl 0 rfl) ?_
  refine lv_iload_n hx hb dX5_clog_5 rfl (lv_at hl 1 rfl) ?_
  exact xo_v (wc := [(h0, .inr (5, [.ref ai, .ref pu, .ref pa, .ref ga, .ref sc, .ref hi, .ref gr, .int (nI me), .int (nI dp), .int (bI up), .int (nI mi), .int (nI ru), .long wp, .long wl])), (ga, .inr (1, [.ref g1, .ref g2, .ref g3])), (g1, .inl (cZ, 20, .inl (bA UP))), (g2, .inl (cZ, 20, .inl (bA CL))), (g3, .inl (cJ, 20, .inr (.inl CO)))]) hnt hlocks hP hD hS hA [0, 1, 2, 3, 4] rfl rfl (vx_runV (As := [.int (nI ki)]) (rest := []) ⟨hx, hb, hml, hown, hts⟩ (x_X5_requireGauge_bad l hlst D cI cJ cZ h0 ai pu pa ga sc hi gr me dp up mi ru wp wl g1 g2 g3 UP CL CO ki hki hup H.size) (cwV 1 hts gX5_clog_X5_requireGauge rfl rfl rfl (by decide +kernel) ⟨Nat.le_of_ble_eq_true rfl, Nat.le_of_ble_eq_true rfl⟩) (pxV (wc := [(h0, .inr (5, [.ref ai, .ref pu, .ref pa, .ref ga, .ref sc, .ref hi, .ref gr, .int (nI me), .int (nI dp), .int (bI up), .int (nI mi), .int (nI ru), .long wp, .long wl])), (ga, .inr (1, [.ref g1, .ref g2, .ref g3])), (g1, .inl (cZ, 20, .inl (bA UP))), (g2, .inl (cZ, 20, .inl (bA CL))), (g3, .inl (cJ, 20, .inr (.inl CO)))]) hT hP hD hA [0, 1, 2, 3, 4] rfl rfl 0 rfl rfl hST hSQ hS) rfl rfl hl.1 rfl (lv_room (Nat.le_of_ble_eq_true rfl)) dX5_clog_6 ⟨Nat.le_of_ble_eq_true rfl, Nat.le_of_ble_eq_true rfl⟩)
set_option maxHeartbeats 4000000 in
set_option maxRecDepth 100000 in
theorem x_X5_pass_0 (l : Launch) (hlst : l.stackTraces = false) (D : va_G) (cI cJ cZ : ClassId) (h0 : Nat) (ai : Nat) (pu : Nat) (pa : Nat) (ga : Nat) (sc : Nat) (hi : Nat) (gr : Nat) (me : Nat) (dp : Nat) (up : Bool) (mi : Nat) (ru : Nat) (wp : Int64) (wl : Int64) (x0 : Int32) (hbad : x0.toInt < 1 ∨ 60 < x0.toInt) (sz : Nat) : vx_Met l yX5_pass wsX5_pass ({ frames := 7, cells := 1, slots := 6, locals := 104 } : Room) (va_Pc [.ref h0, .int x0] (xPre D cI cJ cZ [(h0, .inr (5, [.ref ai, .ref pu, .ref pa, .ref ga, .ref sc, .ref hi, .ref gr, .int (nI me), .int (nI dp), .int (bI up), .int (nI mi), .int (nI ru), .long wp, .long wl]))] sz)) XQi (XC9 D (va_A [(h0, .inr (5, [.ref ai, .ref pu, .ref pa, .ref ga, .ref sc, .ref hi, .ref gr, .int (nI me), .int (nI dp), .int (bI up), .int (nI mi), .int (nI ru), .long wp, .long wl]))] sz) [(h0, .inr (5, [.ref ai, .ref pu, .ref pa, .ref ga, .ref sc, .ref hi, .ref gr, .int (nI me), .int (nI dp), .int (bI up), .int (nI mi), .int (nI ru), .long wp, .long wl]))] "java/lang/IllegalArgumentException") 1 6 (va_A [(h0, .inr (5, [.ref ai, .ref pu, .ref pa, .ref ga, .ref sc, .ref hi, .ref gr, .int (nI me), .int (nI dp), .int (bI up), .int (nI mi), .int (nI ru), .long wp, .long wl]))] sz) := by
  refine vx_ofW (cc := cX5_pass) (maxL := 3) (ret := (some .int)) (by decide) rfl ?_
  intro p e s m args below meth c s₁ B hml hnt hv
  obtain ⟨hargs, ⟨hsz, hP, hT, hD0⟩, hST, hSQ⟩ := hv
  have hx := B.exec
  have hb := B.bytes
  have hr := B.returns
  have hts := atoms_spec (ws := wsX5_pass) B.pre
  have hown : s.vm.findClass RX5 = some m.cls := findClass_of_methodNamed B.named
  have hlocks := B.notSynchronized
  subst hsz
  have hK := hT.1
  have hD := hD0.self (sz := s.heap.size)
  generalize hAe : va_A [(h0, .inr (5, [.ref ai, .ref pu, .ref pa, .ref ga, .ref sc, .ref hi, .ref gr, .int (nI me), .int (nI dp), .int (bI up), .int (nI mi), .int (nI ru), .long wp, .long wl]))] s.heap.size = A at hD hSQ ⊢
  have hA : ∀ q : Nat, s.heap.size ≤ q → A q := fun q h => by rw [← hAe]; exact Or.inr h
  obtain ⟨H, hHe⟩ : ∃ H : Heap, H = s.heap := ⟨_, rfl⟩
  have hS : va_S A s.heap H [] := by rw [hHe]; exact va_S.rf
  rw [← hHe] at hP
  suffices K0 : W p l e (headSpec wsX5_pass ({ frames := 7, cells := 1, slots := 6, locals := 104 } : Room)).room s m args below meth c H [] 0 0 (vx_MQ below XQi (XC9 D A [(h0, .inr (5, [.ref ai, .ref pu, .ref pa, .ref ga, .ref sc, .ref hi, .ref gr, .int (nI me), .int (nI dp), .int (bI up), .int (nI mi), .int (nI ru), .long wp, .long wl]))] "java/lang/IllegalArgumentException") args s 1 6 A) (entryFrame m args 3) by rw [hHe] at K0; exact K0
  refine W.eq (g2 := entryFrame m ([.ref h0, .int x0] : List Value).toArray 3) (by rw [hargs]) ?_
  have hl := lv_entry ([.ref h0, .int x0]) (n := 3) (Nat.le_of_ble_eq_true rfl)
  rw [lg_entry_eq]
  generalize (lg_sl ([.ref h0, .int x0]) ++ List.replicate (3 - (lg_sl ([.ref h0, .int x0])).length) Slot.unset).toArray = ls at hl ⊢
  have hl : lv_has ls 3 [(0, .ref h0), (1, .int x0)] := hl
  generalize ([] : List Loc) = locs at hS ⊢
  refine lv_iload_n hx hb dX5_pass_0 rfl (lv_at hl 1 rfl) ?_
  refine lv_iconst (v := nI 1) hx hb dX5_pass_1 (by decide) ?_
  refine lv_bipush (v := nI 60) hx hb dX5_pass_2 (by decide) ?_
  exact xo_v (wc := []) hnt hlocks hP hD hS hA [] rfl rfl (vx_runS (As := [.int x0, .int (nI 1), .int (nI 60)]) (rest := []) ⟨hx, hb, hml, hown, hts⟩ (x_X5_requireRange_bad l hlst D cI cJ cZ x0 1 60 (by first | assumption | omega) (by first | assumption | omega) (by first | assumption | omega) H.size) (va_cwS 3 hts gX5_pass_X5_requireRange rfl rfl rfl (by decide +kernel) ⟨Nat.le_of_ble_eq_true rfl, Nat.le_of_ble_eq_true rfl⟩) (pxS (wc := []) hT hP hD hA [] rfl rfl hST hSQ hS) rfl rfl hl.1 rfl (lv_room (Nat.le_of_ble_eq_true rfl)) dX5_pass_4 ⟨Nat.le_of_ble_eq_true rfl, Nat.le_of_ble_eq_true rfl⟩)
set_option maxHeartbeats 4000000 in
set_option maxRecDepth 100000 in
theorem x_X5_pass_1 (l : Launch) (hlst : l.stackTraces = false) (D : va_G) (cI cJ cZ : ClassId) (h0 : Nat) (ai : Nat) (pu : Nat) (pa : Nat) (ga : Nat) (sc : Nat) (hi : Nat) (gr : Nat) (me : Nat) (dp : Nat) (up : Bool) (mi : Nat) (ru : Nat) (wp : Int64) (wl : Int64) (mn : Nat) (h1mn : 1 ≤ mn) (h2mn : mn ≤ 60) (hmm : 600 < mi + mn) (hmi : mi ≤ 600) (sz : Nat) : vx_Met l yX5_pass wsX5_pass ({ frames := 6, cells := 1, slots := 6, locals := 82 } : Room) (va_Pc [.ref h0, .int (nI mn)] (xPre D cI cJ cZ [(h0, .inr (5, [.ref ai, .ref pu, .ref pa, .ref ga, .ref sc, .ref hi, .ref gr, .int (nI me), .int (nI dp), .int (bI up), .int (nI mi), .int (nI ru), .long wp, .long wl]))] sz)) XQi (XC9 D (va_A [(h0, .inr (5, [.ref ai, .ref pu, .ref pa, .ref ga, .ref sc, .ref hi, .ref gr, .int (nI me), .int (nI dp), .int (bI up), .int (nI mi), .int (nI ru), .long wp, .long wl]))] sz) [(h0, .inr (5, [.ref ai, .ref pu, .ref pa, .ref ga, .ref sc, .ref hi, .ref gr, .int (nI me), .int (nI dp), .int (bI up), .int (nI mi), .int (nI ru), .long wp, .long wl]))] "java/lang/IllegalStateException") 1 6 (va_A [(h0, .inr (5, [.ref ai, .ref pu, .ref pa, .ref ga, .ref sc, .ref hi, .ref gr, .int (nI me), .int (nI dp), .int (bI up), .int (nI mi), .int (nI ru), .long wp, .long wl]))] sz) := by
  refine vx_ofW (cc := cX5_pass) (maxL := 3) (ret := (some .int)) (by decide) rfl ?_
  intro p e s m args below meth c s₁ B hml hnt hv
  obtain ⟨hargs, ⟨hsz, hP, hT, hD0⟩, hST, hSQ⟩ := hv
  have hx := B.exec
  have hb := B.bytes
  have hr := B.returns
  have hts := atoms_spec (ws := wsX5_pass) B.pre
  have hown : s.vm.findClass RX5 = some m.cls := findClass_of_methodNamed B.named
  have hlocks := B.notSynchronized
  subst hsz
  have hK := hT.1
  have hD := hD0.self (sz := s.heap.size)
  generalize hAe : va_A [(h0, .inr (5, [.ref ai, .ref pu, .ref pa, .ref ga, .ref sc, .ref hi, .ref gr, .int (nI me), .int (nI dp), .int (bI up), .int (nI mi), .int (nI ru), .long wp, .long wl]))] s.heap.size = A at hD hSQ ⊢
  have hA : ∀ q : Nat, s.heap.size ≤ q → A q := fun q h => by rw [← hAe]; exact Or.inr h
  obtain ⟨H, hHe⟩ : ∃ H : Heap, H = s.heap := ⟨_, rfl⟩
  have hS : va_S A s.heap H [] := by rw [hHe]; exact va_S.rf
  rw [← hHe] at hP
  suffices K0 : W p l e (headSpec wsX5_pass ({ frames := 6, cells := 1, slots := 6, locals := 82 } : Room)).room s m args below meth c H [] 0 0 (vx_MQ below XQi (XC9 D A [(h0, .inr (5, [.ref ai, .ref pu, .ref pa, .ref ga, .ref sc, .ref hi, .ref gr, .int (nI me), .int (nI dp), .int (bI up), .int (nI mi), .int (nI ru), .long wp, .long wl]))] "java/lang/IllegalStateException") args s 1 6 A) (entryFrame m args 3) by rw [hHe] at K0; exact K0
  refine W.eq (g2 := entryFrame m ([.ref h0, .int (nI mn)] : List Value).toArray 3) (by rw [hargs]) ?_
  have hl := lv_entry ([.ref h0, .int (nI mn)]) (n := 3) (Nat.le_of_ble_eq_true rfl)
  rw [lg_entry_eq]
  generalize (lg_sl ([.ref h0, .int (nI mn)]) ++ List.replicate (3 - (lg_sl ([.ref h0, .int (nI mn)])).length) Slot.unset).toArray = ls at hl ⊢
  have hl : lv_has ls 3 [(0, .ref h0), (1, .int (nI mn))] := hl
  generalize ([] : List Loc) = locs at hS ⊢
  have hinX5 : ∀ w ∈ wsX50, w ∈ wsX5_pass := by decide +kernel
  have hf63 := hts (.fieldLink RX5 63 "Brightband" "minute" "I") (by decide +kernel)
  refine lv_iload_n hx hb dX5_pass_0 rfl (lv_at hl 1 rfl) ?_
  refine lv_iconst (v := nI 1) hx hb dX5_pass_1 (by decide) ?_
  refine lv_bipush (v := nI 60) hx hb dX5_pass_2 (by decide) ?_
  refine cr_v (wc := []) (w1 := []) (ws2 := [(h0, .inr (5, [.ref ai, .ref pu, .ref pa, .ref ga, .ref sc, .ref hi, .ref gr, .int (nI me), .int (nI dp), .int (bI up), .int (nI mi), .int (nI ru), .long wp, .long wl]))]) hP hD hS hA [] rfl rfl rfl (va_runS (As := [.int (nI mn), .int (nI 1), .int (nI 60)]) (rest := []) ⟨hx, hb, hml, hown, hts⟩ (c_X5_requireRange l D cI cJ cZ mn 1 60 (by omega) (by omega) (by omega) H.size) (va_cwS 3 hts gX5_pass_X5_requireRange rfl rfl rfl (by decide +kernel) ⟨Nat.le_of_ble_eq_true rfl, Nat.le_of_ble_eq_true rfl⟩) (pvS hT hP hD [] rfl rfl) rfl rfl hl.1 rfl (lv_room (Nat.le_of_ble_eq_true rfl)) dX5_pass_4 ⟨Nat.zero_le _, Nat.zero_le _⟩) (fun H locs hP hD hS => ?_)
  refine lv_iload_n hx hb dX5_pass_7 rfl (lv_at hl 1 rfl) ?_
  refine lv_sipush (v := nI 600) hx hb dX5_pass_8 (by decide) ?_
  refine lv_aload_n hx hb dX5_pass_11 rfl (lv_at hl 0 rfl) ?_
  refine va_get (D := D) (ci := 5) (v := .int (nI mi)) (C := RX5) (T := TX5) (N := 14) hx hb hts hinX5 hown hK hP 0 rfl rfl 10 (by decide) hf63 (fun _ h9 => h9) rfl dX5_pass_12 ?_
  refine lv_isub hx hb dX5_pass_15 ?_
  refine tp_i (pk_sub (by omega)) ?_
  refine ci_le (tgt := 29) hx hb dX5_pass_16 (by decide) (nT (by omega)) (nT (by omega)) (fun c_16 => by omega) (fun c_16 => ?_)
  obtain ⟨sa, hsa⟩ := hST.1.2.2.2.2.2.1
  exact thr9 (own := RX5) (cls := "java/lang/IllegalStateException") (ik := 90) (is := 130) (ic := 94) hx hb hlst hown (by decide +kernel) (hts (.classLink RX5 90 "java/lang/IllegalStateException") (by decide +kernel)) (hts (.initialized "java/lang/IllegalStateException") (by decide +kernel)) hsa (fun w h => hts w (List.mem_cons_of_mem _ (List.mem_append_left _ (List.mem_append_right _ h)))) (by decide +kernel) hST.2.1.1.2.2 hST.2.2 (by decide +kernel) hSQ hP hD hS (hl.1.trans hml.symm) dX5_pass_19 dX5_pass_22 dX5_pass_23 dX5_pass_25 dX5_pass_28 hnt (Nat.le_of_ble_eq_true rfl) (Nat.le_of_ble_eq_true rfl) (Nat.le_of_ble_eq_true rfl) (Nat.le_of_ble_eq_true rfl) hlocks
set_option maxHeartbeats 4000000 in
set_option maxRecDepth 100000 in
theorem x_X5_scan_0 (l : Launch) (hlst : l.stackTraces = false) (D : va_G) (cI cJ cZ : ClassId) (h0 : Nat) (ai : Nat) (pu : Nat) (pa : Nat) (ga : Nat) (sc : Nat) (hi : Nat) (gr : Nat) (me : Nat) (dp : Nat) (up : Bool) (mi : Nat) (ru : Nat) (wp : Int64) (wl : Int64) (x0 : Int32) (hbad : x0.toInt < 0 ∨ 3 < x0.toInt) (sz : Nat) : vx_Met l yX5_scan wsX5_scan ({ frames := 7, cells := 1, slots := 6, locals := 104 } : Room) (va_Pc [.ref h0, .int x0] (xPre D cI cJ cZ [(h0, .inr (5, [.ref ai, .ref pu, .ref pa, .ref ga, .ref sc, .ref hi, .ref gr, .int (nI me), .int (nI dp), .int (bI up), .int (nI mi), .int (nI ru), .long wp, .long wl]))] sz)) XQi (XC9 D (va_A [(h0, .inr (5, [.ref ai, .ref pu, .ref pa, .ref ga, .ref sc, .ref hi, .ref gr, .int (nI me), .int (nI dp), .int (bI up), .int (nI mi), .int (nI ru), .long wp, .long wl]))] sz) [(h0, .inr (5, [.ref ai, .ref pu, .ref pa, .ref ga, .ref sc, .ref hi, .ref gr, .int (nI me), .int (nI dp), .int (bI up), .int (nI mi), .int (nI ru), .long wp, .long wl]))] "java/lang/IllegalArgumentException") 1 6 (va_A [(h0, .inr (5, [.ref ai, .ref pu, .ref pa, .ref ga, .ref sc, .ref hi, .ref gr, .int (nI me), .int (nI dp), .int (bI up), .int (nI mi), .int (nI ru), .long wp, .long wl]))] sz) := by
  refine vx_ofW (cc := cX5_scan) (maxL := 4) (ret := (some .int)) (by decide) rfl ?_
  intro p e s m args below meth c s₁ B hml hnt hv
  obtain ⟨hargs, ⟨hsz, hP, hT, hD0⟩, hST, hSQ⟩ := hv
  have hx := B.exec
  have hb := B.bytes
  have hr := B.returns
  have hts := atoms_spec (ws := wsX5_scan) B.pre
  have hown : s.vm.findClass RX5 = some m.cls := findClass_of_methodNamed B.named
  have hlocks := B.notSynchronized
  subst hsz
  have hK := hT.1
  have hD := hD0.self (sz := s.heap.size)
  generalize hAe : va_A [(h0, .inr (5, [.ref ai, .ref pu, .ref pa, .ref ga, .ref sc, .ref hi, .ref gr, .int (nI me), .int (nI dp), .int (bI up), .int (nI mi), .int (nI ru), .long wp, .long wl]))] s.heap.size = A at hD hSQ ⊢
  have hA : ∀ q : Nat, s.heap.size ≤ q → A q := fun q h => by rw [← hAe]; exact Or.inr h
  obtain ⟨H, hHe⟩ : ∃ H : Heap, H = s.heap := ⟨_, rfl⟩
  have hS : va_S A s.heap H [] := by rw [hHe]; exact va_S.rf
  rw [← hHe] at hP
  suffices K0 : W p l e (headSpec wsX5_scan ({ frames := 7, cells := 1, slots := 6, locals := 104 } : Room)).room s m args below meth c H [] 0 0 (vx_MQ below XQi (XC9 D A [(h0, .inr (5, [.ref ai, .ref pu, .ref pa, .ref ga, .ref sc, .ref hi, .ref gr, .int (nI me), .int (nI dp), .int (bI up), .int (nI mi), .int (nI ru), .long wp, .long wl]))] "java/lang/IllegalArgumentException") args s 1 6 A) (entryFrame m args 4) by rw [hHe] at K0; exact K0
  refine W.eq (g2 := entryFrame m ([.ref h0, .int x0] : List Value).toArray 4) (by rw [hargs]) ?_
  have hl := lv_entry ([.ref h0, .int x0]) (n := 4) (Nat.le_of_ble_eq_true rfl)
  rw [lg_entry_eq]
  generalize (lg_sl ([.ref h0, .int x0]) ++ List.replicate (4 - (lg_sl ([.ref h0, .int x0])).length) Slot.unset).toArray = ls at hl ⊢
  have hl : lv_has ls 4 [(0, .ref h0), (1, .int x0)] := hl
  generalize ([] : List Loc) = locs at hS ⊢
  refine lv_iload_n hx hb dX5_scan_0 rfl (lv_at hl 1 rfl) ?_
  refine lv_iconst (v := nI 0) hx hb dX5_scan_1 (by decide) ?_
  refine lv_iconst (v := nI 3) hx hb dX5_scan_2 (by decide) ?_
  exact xo_v (wc := []) hnt hlocks hP hD hS hA [] rfl rfl (vx_runS (As := [.int x0, .int (nI 0), .int (nI 3)]) (rest := []) ⟨hx, hb, hml, hown, hts⟩ (x_X5_requireRange_bad l hlst D cI cJ cZ x0 0 3 (by first | assumption | omega) (by first | assumption | omega) (by first | assumption | omega) H.size) (va_cwS 3 hts gX5_scan_X5_requireRange rfl rfl rfl (by decide +kernel) ⟨Nat.le_of_ble_eq_true rfl, Nat.le_of_ble_eq_true rfl⟩) (pxS (wc := []) hT hP hD hA [] rfl rfl hST hSQ hS) rfl rfl hl.1 rfl (lv_room (Nat.le_of_ble_eq_true rfl)) dX5_scan_3 ⟨Nat.le_of_ble_eq_true rfl, Nat.le_of_ble_eq_true rfl⟩)
set_option maxHeartbeats 4000000 in
set_option maxRecDepth 100000 in
theorem x_X5_scan_1 (l : Launch) (hlst : l.stackTraces = false) (D : va_G) (cI cJ cZ : ClassId) (h0 : Nat) (ai : Nat) (pu : Nat) (pa : Nat) (ga : Nat) (sc : Nat) (hi : Nat) (gr : Nat) (me : Nat) (dp : Nat) (up : Bool) (mi : Nat) (ru : Nat) (wp : Int64) (wl : Int64) (s1 : Nat) (s2 : Nat) (EC : Nat → Int64) (RU : Nat → Nat) (sm : Nat) (ev : Nat) (h2ev : ev ≤ 3) (hsm : 30 ≤ sm) (hsb : sm ≤ 100) (sz : Nat) : vx_Met l yX5_scan wsX5_scan ({ frames := 6, cells := 1, slots := 6, locals := 82 } : Room) (va_Pc [.ref h0, .int (nI ev)] (xPre D cI cJ cZ [(h0, .inr (5, [.ref ai, .ref pu, .ref pa, .ref ga, .ref sc, .ref hi, .ref gr, .int (nI me), .int (nI dp), .int (bI up), .int (nI mi), .int (nI ru), .long wp, .long wl])), (sc, .inr (4, [.ref s1, .ref s2, .int (nI sm)])), (s1, .inl (cJ, 600, .inr (.inl EC))), (s2, .inl (cI, 30, .inl (nA RU)))] sz)) XQi (XC9 D (va_A [(h0, .inr (5, [.ref ai, .ref pu, .ref pa, .ref ga, .ref sc, .ref hi, .ref gr, .int (nI me), .int (nI dp), .int (bI up), .int (nI mi), .int (nI ru), .long wp, .long wl])), (sc, .inr (4, [.ref s1, .ref s2, .int (nI sm)])), (s1, .inl (cJ, 600, .inr (.inl EC))), (s2, .inl (cI, 30, .inl (nA RU)))] sz) [(h0, .inr (5, [.ref ai, .ref pu, .ref pa, .ref ga, .ref sc, .ref hi, .ref gr, .int (nI me), .int (nI dp), .int (bI up), .int (nI mi), .int (nI ru), .long wp, .long wl])), (sc, .inr (4, [.ref s1, .ref s2, .int (nI sm)])), (s1, .inl (cJ, 600, .inr (.inl EC))), (s2, .inl (cI, 30, .inl (nA RU)))] "java/lang/IllegalStateException") 1 6 (va_A [(h0, .inr (5, [.ref ai, .ref pu, .ref pa, .ref ga, .ref sc, .ref hi, .ref gr, .int (nI me), .int (nI dp), .int (bI up), .int (nI mi), .int (nI ru), .long wp, .long wl])), (sc, .inr (4, [.ref s1, .ref s2, .int (nI sm)])), (s1, .inl (cJ, 600, .inr (.inl EC))), (s2, .inl (cI, 30, .inl (nA RU)))] sz) := by
  refine vx_ofW (cc := cX5_scan) (maxL := 4) (ret := (some .int)) (by decide) rfl ?_
  intro p e s m args below meth c s₁ B hml hnt hv
  obtain ⟨hargs, ⟨hsz, hP, hT, hD0⟩, hST, hSQ⟩ := hv
  have hx := B.exec
  have hb := B.bytes
  have hr := B.returns
  have hts := atoms_spec (ws := wsX5_scan) B.pre
  have hown : s.vm.findClass RX5 = some m.cls := findClass_of_methodNamed B.named
  have hlocks := B.notSynchronized
  subst hsz
  have hK := hT.1
  have hD := hD0.self (sz := s.heap.size)
  generalize hAe : va_A [(h0, .inr (5, [.ref ai, .ref pu, .ref pa, .ref ga, .ref sc, .ref hi, .ref gr, .int (nI me), .int (nI dp), .int (bI up), .int (nI mi), .int (nI ru), .long wp, .long wl])), (sc, .inr (4, [.ref s1, .ref s2, .int (nI sm)])), (s1, .inl (cJ, 600, .inr (.inl EC))), (s2, .inl (cI, 30, .inl (nA RU)))] s.heap.size = A at hD hSQ ⊢
  have hA : ∀ q : Nat, s.heap.size ≤ q → A q := fun q h => by rw [← hAe]; exact Or.inr h
  obtain ⟨H, hHe⟩ : ∃ H : Heap, H = s.heap := ⟨_, rfl⟩
  have hS : va_S A s.heap H [] := by rw [hHe]; exact va_S.rf
  rw [← hHe] at hP
  suffices K0 : W p l e (headSpec wsX5_scan ({ frames := 6, cells := 1, slots := 6, locals := 82 } : Room)).room s m args below meth c H [] 0 0 (vx_MQ below XQi (XC9 D A [(h0, .inr (5, [.ref ai, .ref pu, .ref pa, .ref ga, .ref sc, .ref hi, .ref gr, .int (nI me), .int (nI dp), .int (bI up), .int (nI mi), .int (nI ru), .long wp, .long wl])), (sc, .inr (4, [.ref s1, .ref s2, .int (nI sm)])), (s1, .inl (cJ, 600, .inr (.inl EC))), (s2, .inl (cI, 30, .inl (nA RU)))] "java/lang/IllegalStateException") args s 1 6 A) (entryFrame m args 4) by rw [hHe] at K0; exact K0
  refine W.eq (g2 := entryFrame m ([.ref h0, .int (nI ev)] : List Value).toArray 4) (by rw [hargs]) ?_
  have hl := lv_entry ([.ref h0, .int (nI ev)]) (n := 4) (Nat.le_of_ble_eq_true rfl)
  rw [lg_entry_eq]
  generalize (lg_sl ([.ref h0, .int (nI ev)]) ++ List.replicate (4 - (lg_sl ([.ref h0, .int (nI ev)])).length) Slot.unset).toArray = ls at hl ⊢
  have hl : lv_has ls 4 [(0, .ref h0), (1, .int (nI ev))] := hl
  generalize ([] : List Loc) = locs at hS ⊢
  have hinX5 : ∀ w ∈ wsX50, w ∈ wsX5_scan := by decide +kernel
  have hf40 := hts (.fieldLink RX5 40 "Brightband" "scans" "LBrightband$Scans;") (by decide +kernel)
  have hinX4 : ∀ w ∈ wsX40, w ∈ wsX5_scan := by decide +kernel
  refine lv_iload_n hx hb dX5_scan_0 rfl (lv_at hl 1 rfl) ?_
  refine lv_iconst (v := nI 0) hx hb dX5_scan_1 (by decide) ?_
  refine lv_iconst (v := nI 3) hx hb dX5_scan_2 (by decide) ?_
  refine cr_v (wc := []) (w1 := []) (ws2 := [(h0, .inr (5, [.ref ai, .ref pu, .ref pa, .ref ga, .ref sc, .ref hi, .ref gr, .int (nI me), .int (nI dp), .int (bI up), .int (nI mi), .int (nI ru), .long wp, .long wl])), (sc, .inr (4, [.ref s1, .ref s2, .int (nI sm)])), (s1, .inl (cJ, 600, .inr (.inl EC))), (s2, .inl (cI, 30, .inl (nA RU)))]) hP hD hS hA [] rfl rfl rfl (va_runS (As := [.int (nI ev), .int (nI 0), .int (nI 3)]) (rest := []) ⟨hx, hb, hml, hown, hts⟩ (c_X5_requireRange l D cI cJ cZ ev 0 3 (by omega) (by omega) (by omega) H.size) (va_cwS 3 hts gX5_scan_X5_requireRange rfl rfl rfl (by decide +kernel) ⟨Nat.le_of_ble_eq_true rfl, Nat.le_of_ble_eq_true rfl⟩) (pvS hT hP hD [] rfl rfl) rfl rfl hl.1 rfl (lv_room (Nat.le_of_ble_eq_true rfl)) dX5_scan_3 ⟨Nat.zero_le _, Nat.zero_le _⟩) (fun H locs hP hD hS => ?_)
  refine lv_aload_n hx hb dX5_scan_6 rfl (lv_at hl 0 rfl) ?_
  refine va_get (D := D) (ci := 5) (v := .ref sc) (C := RX5) (T := TX5) (N := 14) hx hb hts hinX5 hown hK hP 0 rfl rfl 4 (by decide) hf40 (fun _ h9 => h9) rfl dX5_scan_7 ?_
  refine va_getN (D := D) (ci := 4) (v := .int (nI sm)) (C := RX4) (T := TX4) (N := 3) hx hb hts hinX4 hown hK hP 1 rfl rfl 2 (by decide) (va_Nw.use rfl hT.2.2.2.2.2.2.2.2.2.1) (fun _ h9 => h9) rfl dX5_scan_10 ?_
  refine lv_bipush (v := nI 30) hx hb dX5_scan_13 (by decide) ?_
  refine ci_lt (tgt := 28) hx hb dX5_scan_15 (by decide) (nT (by omega)) (nT (by omega)) (fun c_15 => by omega) (fun c_15 => ?_)
  obtain ⟨sa, hsa⟩ := hST.1.2.2.2.2.2.2.1
  exact thr9 (own := RX5) (cls := "java/lang/IllegalStateException") (ik := 90) (is := 136) (ic := 94) hx hb hlst hown (by decide +kernel) (hts (.classLink RX5 90 "java/lang/IllegalStateException") (by decide +kernel)) (hts (.initialized "java/lang/IllegalStateException") (by decide +kernel)) hsa (fun w h => hts w (List.mem_cons_of_mem _ (List.mem_append_left _ (List.mem_append_right _ h)))) (by decide +kernel) hST.2.1.1.2.2 hST.2.2 (by decide +kernel) hSQ hP hD hS (hl.1.trans hml.symm) dX5_scan_18 dX5_scan_21 dX5_scan_22 dX5_scan_24 dX5_scan_27 hnt (Nat.le_of_ble_eq_true rfl) (Nat.le_of_ble_eq_true rfl) (Nat.le_of_ble_eq_true rfl) (Nat.le_of_ble_eq_true rfl) hlocks
set_option maxHeartbeats 4000000 in
set_option maxRecDepth 100000 in
theorem x_X5_rule_0 (l : Launch) (hlst : l.stackTraces = false) (D : va_G) (cI cJ cZ : ClassId) (h0 : Nat) (ai : Nat) (pu : Nat) (pa : Nat) (ga : Nat) (sc : Nat) (hi : Nat) (gr : Nat) (me : Nat) (dp : Nat) (up : Bool) (mi : Nat) (ru : Nat) (wp : Int64) (wl : Int64) (x0 : Int32) (hbad : x0.toInt < 1 ∨ 1000 < x0.toInt) (sz : Nat) : vx_Met l yX5_rule wsX5_rule ({ frames := 7, cells := 1, slots := 6, locals := 104 } : Room) (va_Pc [.ref h0, .int x0] (xPre D cI cJ cZ [(h0, .inr (5, [.ref ai, .ref pu, .ref pa, .ref ga, .ref sc, .ref hi, .ref gr, .int (nI me), .int (nI dp), .int (bI up), .int (nI mi), .int (nI ru), .long wp, .long wl]))] sz)) XQi (XC9 D (va_A [(h0, .inr (5, [.ref ai, .ref pu, .ref pa, .ref ga, .ref sc, .ref hi, .ref gr, .int (nI me), .int (nI dp), .int (bI up), .int (nI mi), .int (nI ru), .long wp, .long wl]))] sz) [(h0, .inr (5, [.ref ai, .ref pu, .ref pa, .ref ga, .ref sc, .ref hi, .ref gr, .int (nI me), .int (nI dp), .int (bI up), .int (nI mi), .int (nI ru), .long wp, .long wl]))] "java/lang/IllegalArgumentException") 1 6 (va_A [(h0, .inr (5, [.ref ai, .ref pu, .ref pa, .ref ga, .ref sc, .ref hi, .ref gr, .int (nI me), .int (nI dp), .int (bI up), .int (nI mi), .int (nI ru), .long wp, .long wl]))] sz) := by
  refine vx_ofW (cc := cX5_rule) (maxL := 3) (ret := (some .int)) (by decide) rfl ?_
  intro p e s m args below meth c s₁ B hml hnt hv
  obtain ⟨hargs, ⟨hsz, hP, hT, hD0⟩, hST, hSQ⟩ := hv
  have hx := B.exec
  have hb := B.bytes
  have hr := B.returns
  have hts := atoms_spec (ws := wsX5_rule) B.pre
  have hown : s.vm.findClass RX5 = some m.cls := findClass_of_methodNamed B.named
  have hlocks := B.notSynchronized
  subst hsz
  have hK := hT.1
  have hD := hD0.self (sz := s.heap.size)
  generalize hAe : va_A [(h0, .inr (5, [.ref ai, .ref pu, .ref pa, .ref ga, .ref sc, .ref hi, .ref gr, .int (nI me), .int (nI dp), .int (bI up), .int (nI mi), .int (nI ru), .long wp, .long wl]))] s.heap.size = A at hD hSQ ⊢
  have hA : ∀ q : Nat, s.heap.size ≤ q → A q := fun q h => by rw [← hAe]; exact Or.inr h
  obtain ⟨H, hHe⟩ : ∃ H : Heap, H = s.heap := ⟨_, rfl⟩
  have hS : va_S A s.heap H [] := by rw [hHe]; exact va_S.rf
  rw [← hHe] at hP
  suffices K0 : W p l e (headSpec wsX5_rule ({ frames := 7, cells := 1, slots := 6, locals := 104 } : Room)).room s m args below meth c H [] 0 0 (vx_MQ below XQi (XC9 D A [(h0, .inr (5, [.ref ai, .ref pu, .ref pa, .ref ga, .ref sc, .ref hi, .ref gr, .int (nI me), .int (nI dp), .int (bI up), .int (nI mi), .int (nI ru), .long wp, .long wl]))] "java/lang/IllegalArgumentException") args s 1 6 A) (entryFrame m args 3) by rw [hHe] at K0; exact K0
  refine W.eq (g2 := entryFrame m ([.ref h0, .int x0] : List Value).toArray 3) (by rw [hargs]) ?_
  have hl := lv_entry ([.ref h0, .int x0]) (n := 3) (Nat.le_of_ble_eq_true rfl)
  rw [lg_entry_eq]
  generalize (lg_sl ([.ref h0, .int x0]) ++ List.replicate (3 - (lg_sl ([.ref h0, .int x0])).length) Slot.unset).toArray = ls at hl ⊢
  have hl : lv_has ls 3 [(0, .ref h0), (1, .int x0)] := hl
  generalize ([] : List Loc) = locs at hS ⊢
  refine lv_iload_n hx hb dX5_rule_0 rfl (lv_at hl 1 rfl) ?_
  refine lv_iconst (v := nI 1) hx hb dX5_rule_1 (by decide) ?_
  refine lv_sipush (v := nI 1000) hx hb dX5_rule_2 (by decide) ?_
  exact xo_v (wc := []) hnt hlocks hP hD hS hA [] rfl rfl (vx_runS (As := [.int x0, .int (nI 1), .int (nI 1000)]) (rest := []) ⟨hx, hb, hml, hown, hts⟩ (x_X5_requireRange_bad l hlst D cI cJ cZ x0 1 1000 (by first | assumption | omega) (by first | assumption | omega) (by first | assumption | omega) H.size) (va_cwS 3 hts gX5_rule_X5_requireRange rfl rfl rfl (by decide +kernel) ⟨Nat.le_of_ble_eq_true rfl, Nat.le_of_ble_eq_true rfl⟩) (pxS (wc := []) hT hP hD hA [] rfl rfl hST hSQ hS) rfl rfl hl.1 rfl (lv_room (Nat.le_of_ble_eq_true rfl)) dX5_rule_5 ⟨Nat.le_of_ble_eq_true rfl, Nat.le_of_ble_eq_true rfl⟩)
set_option maxHeartbeats 4000000 in
set_option maxRecDepth 100000 in
theorem x_X5_count_0 (l : Launch) (hlst : l.stackTraces = false) (D : va_G) (cI cJ cZ : ClassId) (h0 : Nat) (ai : Nat) (pu : Nat) (pa : Nat) (ga : Nat) (sc : Nat) (hi : Nat) (gr : Nat) (me : Nat) (dp : Nat) (up : Bool) (mi : Nat) (ru : Nat) (wp : Int64) (wl : Int64) (x0 : Int32) (x1 : Int32) (x2 : Int32) (hbad : x0.toInt < 0 ∨ 20 ≤ x0.toInt) (sz : Nat) : vx_Met l yX5_count wsX5_count ({ frames := 7, cells := 1, slots := 6, locals := 102 } : Room) (va_Pc [.ref h0, .int x0, .int x1, .int x2] (xPre D cI cJ cZ [(h0, .inr (5, [.ref ai, .ref pu, .ref pa, .ref ga, .ref sc, .ref hi, .ref gr, .int (nI me), .int (nI dp), .int (bI up), .int (nI mi), .int (nI ru), .long wp, .long wl]))] sz)) XQi (XC9 D (va_A [(h0, .inr (5, [.ref ai, .ref pu, .ref pa, .ref ga, .ref sc, .ref hi, .ref gr, .int (nI me), .int (nI dp), .int (bI up), .int (nI mi), .int (nI ru), .long wp, .long wl]))] sz) [(h0, .inr (5, [.ref ai, .ref pu, .ref pa, .ref ga, .ref sc, .ref hi, .ref gr, .int (nI me), .int (nI dp), .int (bI up), .int (nI mi), .int (nI ru), .long wp, .long wl]))] "java/lang/IndexOutOfBoundsException") 1 6 (va_A [(h0, .inr (5, [.ref ai, .ref pu, .ref pa, .ref ga, .ref sc, .ref hi, .ref gr, .int (nI me), .int (nI dp), .int (bI up), .int (nI mi), .int (nI ru), .long wp, .long wl]))] sz) := by
  refine vx_ofW (cc := cX5_count) (maxL := 4) (ret := (some .int)) (by decide) rfl ?_
  intro p e s m args below meth c s₁ B hml hnt hv
  obtain ⟨hargs, ⟨hsz, hP, hT, hD0⟩, hST, hSQ⟩ := hv
  have hx := B.exec
  have hb := B.bytes
  have hr := B.returns
  have hts := atoms_spec (ws := wsX5_count) B.pre
  have hown : s.vm.findClass RX5 = some m.cls := findClass_of_methodNamed B.named
  have hlocks := B.notSynchronized
  subst hsz
  have hK := hT.1
  have hD := hD0.self (sz := s.heap.size)
  generalize hAe : va_A [(h0, .inr (5, [.ref ai, .ref pu, .ref pa, .ref ga, .ref sc, .ref hi, .ref gr, .int (nI me), .int (nI dp), .int (bI up), .int (nI mi), .int (nI ru), .long wp, .long wl]))] s.heap.size = A at hD hSQ ⊢
  have hA : ∀ q : Nat, s.heap.size ≤ q → A q := fun q h => by rw [← hAe]; exact Or.inr h
  obtain ⟨H, hHe⟩ : ∃ H : Heap, H = s.heap := ⟨_, rfl⟩
  have hS : va_S A s.heap H [] := by rw [hHe]; exact va_S.rf
  rw [← hHe] at hP
  suffices K0 : W p l e (headSpec wsX5_count ({ frames := 7, cells := 1, slots := 6, locals := 102 } : Room)).room s m args below meth c H [] 0 0 (vx_MQ below XQi (XC9 D A [(h0, .inr (5, [.ref ai, .ref pu, .ref pa, .ref ga, .ref sc, .ref hi, .ref gr, .int (nI me), .int (nI dp), .int (bI up), .int (nI mi), .int (nI ru), .long wp, .long wl]))] "java/lang/IndexOutOfBoundsException") args s 1 6 A) (entryFrame m args 4) by rw [hHe] at K0; exact K0
  refine W.eq (g2 := entryFrame m ([.ref h0, .int x0, .int x1, .int x2] : List Value).toArray 4) (by rw [hargs]) ?_
  have hl := lv_entry ([.ref h0, .int x0, .int x1, .int x2]) (n := 4) (Nat.le_of_ble_eq_true rfl)
  rw [lg_entry_eq]
  generalize (lg_sl ([.ref h0, .int x0, .int x1, .int x2]) ++ List.replicate (4 - (lg_sl ([.ref h0, .int x0, .int x1, .int x2])).length) Slot.unset).toArray = ls at hl ⊢
  have hl : lv_has ls 4 [(0, .ref h0), (1, .int x0), (2, .int x1), (3, .int x2)] := hl
  generalize ([] : List Loc) = locs at hS ⊢
  refine lv_iload_n hx hb dX5_count_0 rfl (lv_at hl 1 rfl) ?_
  exact xo_v (wc := []) hnt hlocks hP hD hS hA [] rfl rfl (vx_runS (As := [.int x0]) (rest := []) ⟨hx, hb, hml, hown, hts⟩ (x_X5_requireKilometre_bad l hlst D cI cJ cZ x0 (by first | assumption | omega) H.size) (va_cwS 1 hts gX5_count_X5_requireKilometre rfl rfl rfl (by decide +kernel) ⟨Nat.le_of_ble_eq_true rfl, Nat.le_of_ble_eq_true rfl⟩) (pxS (wc := []) hT hP hD hA [] rfl rfl hST hSQ hS) rfl rfl hl.1 rfl (lv_room (Nat.le_of_ble_eq_true rfl)) dX5_count_1 ⟨Nat.le_of_ble_eq_true rfl, Nat.le_of_ble_eq_true rfl⟩)
set_option maxHeartbeats 4000000 in
set_option maxRecDepth 100000 in
theorem x_X5_count_1 (l : Launch) (hlst : l.stackTraces = false) (D : va_G) (cI cJ cZ : ClassId) (h0 : Nat) (ai : Nat) (pu : Nat) (pa : Nat) (ga : Nat) (sc : Nat) (hi : Nat) (gr : Nat) (me : Nat) (dp : Nat) (up : Bool) (mi : Nat) (ru : Nat) (wp : Int64) (wl : Int64) (ki : Nat) (x1 : Int32) (x2 : Int32) (hki : ki < 20) (hbad : x1.toInt < 0 ∨ 10 ≤ x1.toInt) (sz : Nat) : vx_Met l yX5_count wsX5_count ({ frames := 7, cells := 1, slots := 6, locals := 102 } : Room) (va_Pc [.ref h0, .int (nI ki), .int x1, .int x2] (xPre D cI cJ cZ [(h0, .inr (5, [.ref ai, .ref pu, .ref pa, .ref ga, .ref sc, .ref hi, .ref gr, .int (nI me), .int (nI dp), .int (bI up), .int (nI mi), .int (nI ru), .long wp, .long wl]))] sz)) XQi (XC9 D (va_A [(h0, .inr (5, [.ref ai, .ref pu, .ref pa, .ref ga, .ref sc, .ref hi, .ref gr, .int (nI me), .int (nI dp), .int (bI up), .int (nI mi), .int (nI ru), .long wp, .long wl]))] sz) [(h0, .inr (5, [.ref ai, .ref pu, .ref pa, .ref ga, .ref sc, .ref hi, .ref gr, .int (nI me), .int (nI dp), .int (bI up), .int (nI mi), .int (nI ru), .long wp, .long wl]))] "java/lang/IndexOutOfBoundsException") 1 6 (va_A [(h0, .inr (5, [.ref ai, .ref pu, .ref pa, .ref ga, .ref sc, .ref hi, .ref gr, .int (nI me), .int (nI dp), .int (bI up), .int (nI mi), .int (nI ru), .long wp, .long wl]))] sz) := by
  refine vx_ofW (cc := cX5_count) (maxL := 4) (ret := (some .int)) (by decide) rfl ?_
  intro p e s m args below meth c s₁ B hml hnt hv
  obtain ⟨hargs, ⟨hsz, hP, hT, hD0⟩, hST, hSQ⟩ := hv
  have hx := B.exec
  have hb := B.bytes
  have hr := B.returns
  have hts := atoms_spec (ws := wsX5_count) B.pre
  have hown : s.vm.findClass RX5 = some m.cls := findClass_of_methodNamed B.named
  have hlocks := B.notSynchronized
  subst hsz
  have hK := hT.1
  have hD := hD0.self (sz := s.heap.size)
  generalize hAe : va_A [(h0, .inr (5, [.ref ai, .ref pu, .ref pa, .ref ga, .ref sc, .ref hi, .ref gr, .int (nI me), .int (nI dp), .int (bI up), .int (nI mi), .int (nI ru), .long wp, .long wl]))] s.heap.size = A at hD hSQ ⊢
  have hA : ∀ q : Nat, s.heap.size ≤ q → A q := fun q h => by rw [← hAe]; exact Or.inr h
  obtain ⟨H, hHe⟩ : ∃ H : Heap, H = s.heap := ⟨_, rfl⟩
  have hS : va_S A s.heap H [] := by rw [hHe]; exact va_S.rf
  rw [← hHe] at hP
  suffices K0 : W p l e (headSpec wsX5_count ({ frames := 7, cells := 1, slots := 6, locals := 102 } : Room)).room s m args below meth c H [] 0 0 (vx_MQ below XQi (XC9 D A [(h0, .inr (5, [.ref ai, .ref pu, .ref pa, .ref ga, .ref sc, .ref hi, .ref gr, .int (nI me), .int (nI dp), .int (bI up), .int (nI mi), .int (nI ru), .long wp, .long wl]))] "java/lang/IndexOutOfBoundsException") args s 1 6 A) (entryFrame m args 4) by rw [hHe] at K0; exact K0
  refine W.eq (g2 := entryFrame m ([.ref h0, .int (nI ki), .int x1, .int x2] : List Value).toArray 4) (by rw [hargs]) ?_
  have hl := lv_entry ([.ref h0, .int (nI ki), .int x1, .int x2]) (n := 4) (Nat.le_of_ble_eq_true rfl)
  rw [lg_entry_eq]
  generalize (lg_sl ([.ref h0, .int (nI ki), .int x1, .int x2]) ++ List.replicate (4 - (lg_sl ([.ref h0, .int (nI ki), .int x1, .int x2])).length) Slot.unset).toArray = ls at hl ⊢
  have hl : lv_has ls 4 [(0, .ref h0), (1, .int (nI ki)), (2, .int x1), (3, .int x2)] := hl
  generalize ([] : List Loc) = locs at hS ⊢
  refine lv_iload_n hx hb dX5_count_0 rfl (lv_at hl 1 rfl) ?_
  refine cr_v (wc := []) (w1 := []) (ws2 := [(h0, .inr (5, [.ref ai, .ref pu, .ref pa, .ref ga, .ref sc, .ref hi, .ref gr, .int (nI me), .int (nI dp), .int (bI up), .int (nI mi), .int (nI ru), .long wp, .long wl]))]) hP hD hS hA [] rfl rfl rfl (va_runS (As := [.int (nI ki)]) (rest := []) ⟨hx, hb, hml, hown, hts⟩ (c_X5_requireKilometre l D cI cJ cZ ki (by omega) H.size) (va_cwS 1 hts gX5_count_X5_requireKilometre rfl rfl rfl (by decide +kernel) ⟨Nat.le_of_ble_eq_true rfl, Nat.le_of_ble_eq_true rfl⟩) (pvS hT hP hD [] rfl rfl) rfl rfl hl.1 rfl (lv_room (Nat.le_of_ble_eq_true rfl)) dX5_count_1 ⟨Nat.zero_le _, Nat.zero_le _⟩) (fun H locs hP hD hS => ?_)
  refine lv_iload_n hx hb dX5_count_4 rfl (lv_at hl 2 rfl) ?_
  exact xo_v (wc := []) hnt hlocks hP hD hS hA [] rfl rfl (vx_runS (As := [.int x1]) (rest := []) ⟨hx, hb, hml, hown, hts⟩ (x_X5_requireLayer_bad l hlst D cI cJ cZ x1 (by first | assumption | omega) H.size) (va_cwS 1 hts gX5_count_X5_requireLayer rfl rfl rfl (by decide +kernel) ⟨Nat.le_of_ble_eq_true rfl, Nat.le_of_ble_eq_true rfl⟩) (pxS (wc := []) hT hP hD hA [] rfl rfl hST hSQ hS) rfl rfl hl.1 rfl (lv_room (Nat.le_of_ble_eq_true rfl)) dX5_count_5 ⟨Nat.le_of_ble_eq_true rfl, Nat.le_of_ble_eq_true rfl⟩)
set_option maxHeartbeats 4000000 in
set_option maxRecDepth 100000 in
theorem x_X5_count_2 (l : Launch) (hlst : l.stackTraces = false) (D : va_G) (cI cJ cZ : ClassId) (h0 : Nat) (ai : Nat) (pu : Nat) (pa : Nat) (ga : Nat) (sc : Nat) (hi : Nat) (gr : Nat) (me : Nat) (dp : Nat) (up : Bool) (mi : Nat) (ru : Nat) (wp : Int64) (wl : Int64) (ki : Nat) (la : Nat) (x2 : Int32) (hki : ki < 20) (hla : la < 10) (hbad : x2.toInt < 1 ∨ 3 < x2.toInt) (sz : Nat) : vx_Met l yX5_count wsX5_count ({ frames := 7, cells := 1, slots := 6, locals := 104 } : Room) (va_Pc [.ref h0, .int (nI ki), .int (nI la), .int x2] (xPre D cI cJ cZ [(h0, .inr (5, [.ref ai, .ref pu, .ref pa, .ref ga, .ref sc, .ref hi, .ref gr, .int (nI me), .int (nI dp), .int (bI up), .int (nI mi), .int (nI ru), .long wp, .long wl]))] sz)) XQi (XC9 D (va_A [(h0, .inr (5, [.ref ai, .ref pu, .ref pa, .ref ga, .ref sc, .ref hi, .ref gr, .int (nI me), .int (nI dp), .int (bI up), .int (nI mi), .int (nI ru), .long wp, .long wl]))] sz) [(h0, .inr (5, [.ref ai, .ref pu, .ref pa, .ref ga, .ref sc, .ref hi, .ref gr, .int (nI me), .int (nI dp), .int (bI up), .int (nI mi), .int (nI ru), .long wp, .long wl]))] "java/lang/IllegalArgumentException") 1 6 (va_A [(h0, .inr (5, [.ref ai, .ref pu, .ref pa, .ref ga, .ref sc, .ref hi, .ref gr, .int (nI me), .int (nI dp), .int (bI up), .int (nI mi), .int (nI ru), .long wp, .long wl]))] sz) := by
  refine vx_ofW (cc := cX5_count) (maxL := 4) (ret := (some .int)) (by decide) rfl ?_
  intro p e s m args below meth c s₁ B hml hnt hv
  obtain ⟨hargs, ⟨hsz, hP, hT, hD0⟩, hST, hSQ⟩ := hv
  have hx := B.exec
  have hb := B.bytes
  have hr := B.returns
  have hts := atoms_spec (ws := wsX5_count) B.pre
  have hown : s.vm.findClass RX5 = some m.cls := findClass_of_methodNamed B.named
  have hlocks := B.notSynchronized
  subst hsz
  have hK := hT.1
  have hD := hD0.self (sz := s.heap.size)
  generalize hAe : va_A [(h0, .inr (5, [.ref ai, .ref pu, .ref pa, .ref ga, .ref sc, .ref hi, .ref gr, .int (nI me), .int (nI dp), .int (bI up), .int (nI mi), .int (nI ru), .long wp, .long wl]))] s.heap.size = A at hD hSQ ⊢
  have hA : ∀ q : Nat, s.heap.size ≤ q → A q := fun q h => by rw [← hAe]; exact Or.inr h
  obtain ⟨H, hHe⟩ : ∃ H : Heap, H = s.heap := ⟨_, rfl⟩
  have hS : va_S A s.heap H [] := by rw [hHe]; exact va_S.rf
  rw [← hHe] at hP
  suffices K0 : W p l e (headSpec wsX5_count ({ frames := 7, cells := 1, slots := 6, locals := 104 } : Room)).room s m args below meth c H [] 0 0 (vx_MQ below XQi (XC9 D A [(h0, .inr (5, [.ref ai, .ref pu, .ref pa, .ref ga, .ref sc, .ref hi, .ref gr, .int (nI me), .int (nI dp), .int (bI up), .int (nI mi), .int (nI ru), .long wp, .long wl]))] "java/lang/IllegalArgumentException") args s 1 6 A) (entryFrame m args 4) by rw [hHe] at K0; exact K0
  refine W.eq (g2 := entryFrame m ([.ref h0, .int (nI ki), .int (nI la), .int x2] : List Value).toArray 4) (by rw [hargs]) ?_
  have hl := lv_entry ([.ref h0, .int (nI ki), .int (nI la), .int x2]) (n := 4) (Nat.le_of_ble_eq_true rfl)
  rw [lg_entry_eq]
  generalize (lg_sl ([.ref h0, .int (nI ki), .int (nI la), .int x2]) ++ List.replicate (4 - (lg_sl ([.ref h0, .int (nI ki), .int (nI la), .int x2])).length) Slot.unset).toArray = ls at hl ⊢
  have hl : lv_has ls 4 [(0, .ref h0), (1, .int (nI ki)), (2, .int (nI la)), (3, .int x2)] := hl
  generalize ([] : List Loc) = locs at hS ⊢
  refine lv_iload_n hx hb dX5_count_0 rfl (lv_at hl 1 rfl) ?_
  refine cr_v (wc := []) (w1 := []) (ws2 := [(h0, .inr (5, [.ref ai, .ref pu, .ref pa, .ref ga, .ref sc, .ref hi, .ref gr, .int (nI me), .int (nI dp), .int (bI up), .int (nI mi), .int (nI ru), .long wp, .long wl]))]) hP hD hS hA [] rfl rfl rfl (va_runS (As := [.int (nI ki)]) (rest := []) ⟨hx, hb, hml, hown, hts⟩ (c_X5_requireKilometre l D cI cJ cZ ki (by omega) H.size) (va_cwS 1 hts gX5_count_X5_requireKilometre rfl rfl rfl (by decide +kernel) ⟨Nat.le_of_ble_eq_true rfl, Nat.le_of_ble_eq_true rfl⟩) (pvS hT hP hD [] rfl rfl) rfl rfl hl.1 rfl (lv_room (Nat.le_of_ble_eq_true rfl)) dX5_count_1 ⟨Nat.zero_le _, Nat.zero_le _⟩) (fun H locs hP hD hS => ?_)
  refine lv_iload_n hx hb dX5_count_4 rfl (lv_at hl 2 rfl) ?_
  refine cr_v (wc := []) (w1 := []) (ws2 := [(h0, .inr (5, [.ref ai, .ref pu, .ref pa, .ref ga, .ref sc, .ref hi, .ref gr, .int (nI me), .int (nI dp), .int (bI up), .int (nI mi), .int (nI ru), .long wp, .long wl]))]) hP hD hS hA [] rfl rfl rfl (va_runS (As := [.int (nI la)]) (rest := []) ⟨hx, hb, hml, hown, hts⟩ (c_X5_requireLayer l D cI cJ cZ la (by omega) H.size) (va_cwS 1 hts gX5_count_X5_requireLayer rfl rfl rfl (by decide +kernel) ⟨Nat.le_of_ble_eq_true rfl, Nat.le_of_ble_eq_true rfl⟩) (pvS hT hP hD [] rfl rfl) rfl rfl hl.1 rfl (lv_room (Nat.le_of_ble_eq_true rfl)) dX5_count_5 ⟨Nat.zero_le _, Nat.zero_le _⟩) (fun H locs hP hD hS => ?_)
  refine lv_iload_n hx hb dX5_count_8 rfl (lv_at hl 3 rfl) ?_
  refine lv_iconst (v := nI 1) hx hb dX5_count_9 (by decide) ?_
  refine lv_iconst (v := nI 3) hx hb dX5_count_10 (by decide) ?_
  exact xo_v (wc := []) hnt hlocks hP hD hS hA [] rfl rfl (vx_runS (As := [.int x2, .int (nI 1), .int (nI 3)]) (rest := []) ⟨hx, hb, hml, hown, hts⟩ (x_X5_requireRange_bad l hlst D cI cJ cZ x2 1 3 (by first | assumption | omega) (by first | assumption | omega) (by first | assumption | omega) H.size) (va_cwS 3 hts gX5_count_X5_requireRange rfl rfl rfl (by decide +kernel) ⟨Nat.le_of_ble_eq_true rfl, Nat.le_of_ble_eq_true rfl⟩) (pxS (wc := []) hT hP hD hA [] rfl rfl hST hSQ hS) rfl rfl hl.1 rfl (lv_room (Nat.le_of_ble_eq_true rfl)) dX5_count_11 ⟨Nat.le_of_ble_eq_true rfl, Nat.le_of_ble_eq_true rfl⟩)
set_option maxHeartbeats 4000000 in
set_option maxRecDepth 100000 in
theorem x_X5_phase_0 (l : Launch) (hlst : l.stackTraces = false) (D : va_G) (cI cJ cZ : ClassId) (h0 : Nat) (ai : Nat) (pu : Nat) (pa : Nat) (ga : Nat) (sc : Nat) (hi : Nat) (gr : Nat) (me : Nat) (dp : Nat) (up : Bool) (mi : Nat) (ru : Nat) (wp : Int64) (wl : Int64) (x0 : Int32) (hbad : x0.toInt < 0 ∨ 10 ≤ x0.toInt) (sz : Nat) : vx_Met l yX5_phase wsX5_phase ({ frames := 7, cells := 1, slots := 6, locals := 102 } : Room) (va_Pc [.ref h0, .int x0] (xPre D cI cJ cZ [(h0, .inr (5, [.ref ai, .ref pu, .ref pa, .ref ga, .ref sc, .ref hi, .ref gr, .int (nI me), .int (nI dp), .int (bI up), .int (nI mi), .int (nI ru), .long wp, .long wl]))] sz)) XQi (XC9 D (va_A [(h0, .inr (5, [.ref ai, .ref pu, .ref pa, .ref ga, .ref sc, .ref hi, .ref gr, .int (nI me), .int (nI dp), .int (bI up), .int (nI mi), .int (nI ru), .long wp, .long wl]))] sz) [(h0, .inr (5, [.ref ai, .ref pu, .ref pa, .ref ga, .ref sc, .ref hi, .ref gr, .int (nI me), .int (nI dp), .int (bI up), .int (nI mi), .int (nI ru), .long wp, .long wl]))] "java/lang/IndexOutOfBoundsException") 1 6 (va_A [(h0, .inr (5, [.ref ai, .ref pu, .ref pa, .ref ga, .ref sc, .ref hi, .ref gr, .int (nI me), .int (nI dp), .int (bI up), .int (nI mi), .int (nI ru), .long wp, .long wl]))] sz) := by
  refine vx_ofW (cc := cX5_phase) (maxL := 2) (ret := (some .int)) (by decide) rfl ?_
  intro p e s m args below meth c s₁ B hml hnt hv
  obtain ⟨hargs, ⟨hsz, hP, hT, hD0⟩, hST, hSQ⟩ := hv
  have hx := B.exec
  have hb := B.bytes
  have hr := B.returns
  have hts := atoms_spec (ws := wsX5_phase) B.pre
  have hown : s.vm.findClass RX5 = some m.cls := findClass_of_methodNamed B.named
  have hlocks := B.notSynchronized
  subst hsz
  have hK := hT.1
  have hD := hD0.self (sz := s.heap.size)
  generalize hAe : va_A [(h0, .inr (5, [.ref ai, .ref pu, .ref pa, .ref ga, .ref sc, .ref hi, .ref gr, .int (nI me), .int (nI dp), .int (bI up), .int (nI mi), .int (nI ru), .long wp, .long wl]))] s.heap.size = A at hD hSQ ⊢
  have hA : ∀ q : Nat, s.heap.size ≤ q → A q := fun q h => by rw [← hAe]; exact Or.inr h
  obtain ⟨H, hHe⟩ : ∃ H : Heap, H = s.heap := ⟨_, rfl⟩
  have hS : va_S A s.heap H [] := by rw [hHe]; exact va_S.rf
  rw [← hHe] at hP
  suffices K0 : W p l e (headSpec wsX5_phase ({ frames := 7, cells := 1, slots := 6, locals := 102 } : Room)).room s m args below meth c H [] 0 0 (vx_MQ below XQi (XC9 D A [(h0, .inr (5, [.ref ai, .ref pu, .ref pa, .ref ga, .ref sc, .ref hi, .ref gr, .int (nI me), .int (nI dp), .int (bI up), .int (nI mi), .int (nI ru), .long wp, .long wl]))] "java/lang/IndexOutOfBoundsException") args s 1 6 A) (entryFrame m args 2) by rw [hHe] at K0; exact K0
  refine W.eq (g2 := entryFrame m ([.ref h0, .int x0] : List Value).toArray 2) (by rw [hargs]) ?_
  have hl := lv_entry ([.ref h0, .int x0]) (n := 2) (Nat.le_of_ble_eq_true rfl)
  rw [lg_entry_eq]
  generalize (lg_sl ([.ref h0, .int x0]) ++ List.replicate (2 - (lg_sl ([.ref h0, .int x0])).length) Slot.unset).toArray = ls at hl ⊢
  have hl : lv_has ls 2 [(0, .ref h0), (1, .int x0)] := hl
  generalize ([] : List Loc) = locs at hS ⊢
  refine lv_iload_n hx hb dX5_phase_0 rfl (lv_at hl 1 rfl) ?_
  exact xo_v (wc := []) hnt hlocks hP hD hS hA [] rfl rfl (vx_runS (As := [.int x0]) (rest := []) ⟨hx, hb, hml, hown, hts⟩ (x_X5_requireLayer_bad l hlst D cI cJ cZ x0 (by first | assumption | omega) H.size) (va_cwS 1 hts gX5_phase_X5_requireLayer rfl rfl rfl (by decide +kernel) ⟨Nat.le_of_ble_eq_true rfl, Nat.le_of_ble_eq_true rfl⟩) (pxS (wc := []) hT hP hD hA [] rfl rfl hST hSQ hS) rfl rfl hl.1 rfl (lv_room (Nat.le_of_ble_eq_true rfl)) dX5_phase_1 ⟨Nat.le_of_ble_eq_true rfl, Nat.le_of_ble_eq_true rfl⟩)
set_option maxHeartbeats 4000000 in
set_option maxRecDepth 100000 in
theorem x_X5_echo_0 (l : Launch) (hlst : l.stackTraces = false) (D : va_G) (cI cJ cZ : ClassId) (h0 : Nat) (ai : Nat) (pu : Nat) (pa : Nat) (ga : Nat) (sc : Nat) (hi : Nat) (gr : Nat) (me : Nat) (dp : Nat) (up : Bool) (mi : Nat) (ru : Nat) (wp : Int64) (wl : Int64) (x0 : Int32) (x1 : Int32) (hbad : x0.toInt < 0 ∨ 20 ≤ x0.toInt) (sz : Nat) : vx_Met l yX5_echo wsX5_echo ({ frames := 7, cells := 1, slots := 6, locals := 102 } : Room) (va_Pc [.ref h0, .int x0, .int x1] (xPre D cI cJ cZ [(h0, .inr (5, [.ref ai, .ref pu, .ref pa, .ref ga, .ref sc, .ref hi, .ref gr, .int (nI me), .int (nI dp), .int (bI up), .int (nI mi), .int (nI ru), .long wp, .long wl]))] sz)) XQl (XC9 D (va_A [(h0, .inr (5, [.ref ai, .ref pu, .ref pa, .ref ga, .ref sc, .ref hi, .ref gr, .int (nI me), .int (nI dp), .int (bI up), .int (nI mi), .int (nI ru), .long wp, .long wl]))] sz) [(h0, .inr (5, [.ref ai, .ref pu, .ref pa, .ref ga, .ref sc, .ref hi, .ref gr, .int (nI me), .int (nI dp), .int (bI up), .int (nI mi), .int (nI ru), .long wp, .long wl]))] "java/lang/IndexOutOfBoundsException") 1 6 (va_A [(h0, .inr (5, [.ref ai, .ref pu, .ref pa, .ref ga, .ref sc, .ref hi, .ref gr, .int (nI me), .int (nI dp), .int (bI up), .int (nI mi), .int (nI ru), .long wp, .long wl]))] sz) := by
  refine vx_ofW (cc := cX5_echo) (maxL := 3) (ret := (some .long)) (by decide) rfl ?_
  intro p e s m args below meth c s₁ B hml hnt hv
  obtain ⟨hargs, ⟨hsz, hP, hT, hD0⟩, hST, hSQ⟩ := hv
  have hx := B.exec
  have hb := B.bytes
  have hr := B.returns
  have hts := atoms_spec (ws := wsX5_echo) B.pre
  have hown : s.vm.findClass RX5 = some m.cls := findClass_of_methodNamed B.named
  have hlocks := B.notSynchronized
  subst hsz
  have hK := hT.1
  have hD := hD0.self (sz := s.heap.size)
  generalize hAe : va_A [(h0, .inr (5, [.ref ai, .ref pu, .ref pa, .ref ga, .ref sc, .ref hi, .ref gr, .int (nI me), .int (nI dp), .int (bI up), .int (nI mi), .int (nI ru), .long wp, .long wl]))] s.heap.size = A at hD hSQ ⊢
  have hA : ∀ q : Nat, s.heap.size ≤ q → A q := fun q h => by rw [← hAe]; exact Or.inr h
  obtain ⟨H, hHe⟩ : ∃ H : Heap, H = s.heap := ⟨_, rfl⟩
  have hS : va_S A s.heap H [] := by rw [hHe]; exact va_S.rf
  rw [← hHe] at hP
  suffices K0 : W p l e (headSpec wsX5_echo ({ frames := 7, cells := 1, slots := 6, locals := 102 } : Room)).room s m args below meth c H [] 0 0 (vx_MQ below XQl (XC9 D A [(h0, .inr (5, [.ref ai, .ref pu, .ref pa, .ref ga, .ref sc, .ref hi, .ref gr, .int (nI me), .int (nI dp), .int (bI up), .int (nI mi), .int (nI ru), .long wp, .long wl]))] "java/lang/IndexOutOfBoundsException") args s 1 6 A) (entryFrame m args 3) by rw [hHe] at K0; exact K0
  refine W.eq (g2 := entryFrame m ([.ref h0, .int x0, .int x1] : List Value).toArray 3) (by rw [hargs]) ?_
  have hl := lv_entry ([.ref h0, .int x0, .int x1]) (n := 3) (Nat.le_of_ble_eq_true rfl)
  rw [lg_entry_eq]
  generalize (lg_sl ([.ref h0, .int x0, .int x1]) ++ List.replicate (3 - (lg_sl ([.ref h0, .int x0, .int x1])).length) Slot.unset).toArray = ls at hl ⊢
  have hl : lv_has ls 3 [(0, .ref h0), (1, .int x0), (2, .int x1)] := hl
  generalize ([] : List Loc) = locs at hS ⊢
  refine lv_iload_n hx hb dX5_echo_0 rfl (lv_at hl 1 rfl) ?_
  exact xo_v (wc := []) hnt hlocks hP hD hS hA [] rfl rfl (vx_runS (As := [.int x0]) (rest := []) ⟨hx, hb, hml, hown, hts⟩ (x_X5_requireKilometre_bad l hlst D cI cJ cZ x0 (by first | assumption | omega) H.size) (va_cwS 1 hts gX5_echo_X5_requireKilometre rfl rfl rfl (by decide +kernel) ⟨Nat.le_of_ble_eq_true rfl, Nat.le_of_ble_eq_true rfl⟩) (pxS (wc := []) hT hP hD hA [] rfl rfl hST hSQ hS) rfl rfl hl.1 rfl (lv_room (Nat.le_of_ble_eq_true rfl)) dX5_echo_1 ⟨Nat.le_of_ble_eq_true rfl, Nat.le_of_ble_eq_true rfl⟩)
set_option maxHeartbeats 4000000 in
set_option maxRecDepth 100000 in
theorem x_X5_echo_1 (l : Launch) (hlst : l.stackTraces = false) (D : va_G) (cI cJ cZ : ClassId) (h0 : Nat) (ai : Nat) (pu : Nat) (pa : Nat) (ga : Nat) (sc : Nat) (hi : Nat) (gr : Nat) (me : Nat) (dp : Nat) (up : Bool) (mi : Nat) (ru : Nat) (wp : Int64) (wl : Int64) (ki : Nat) (x1 : Int32) (hki : ki < 20) (hbad : x1.toInt < 0 ∨ 3 < x1.toInt) (sz : Nat) : vx_Met l yX5_echo wsX5_echo ({ frames := 7, cells := 1, slots := 6, locals := 104 } : Room) (va_Pc [.ref h0, .int (nI ki), .int x1] (xPre D cI cJ cZ [(h0, .inr (5, [.ref ai, .ref pu, .ref pa, .ref ga, .ref sc, .ref hi, .ref gr, .int (nI me), .int (nI dp), .int (bI up), .int (nI mi), .int (nI ru), .long wp, .long wl]))] sz)) XQl (XC9 D (va_A [(h0, .inr (5, [.ref ai, .ref pu, .ref pa, .ref ga, .ref sc, .ref hi, .ref gr, .int (nI me), .int (nI dp), .int (bI up), .int (nI mi), .int (nI ru), .long wp, .long wl]))] sz) [(h0, .inr (5, [.ref ai, .ref pu, .ref pa, .ref ga, .ref sc, .ref hi, .ref gr, .int (nI me), .int (nI dp), .int (bI up), .int (nI mi), .int (nI ru), .long wp, .long wl]))] "java/lang/IllegalArgumentException") 1 6 (va_A [(h0, .inr (5, [.ref ai, .ref pu, .ref pa, .ref ga, .ref sc, .ref hi, .ref gr, .int (nI me), .int (nI dp), .int (bI up), .int (nI mi), .int (nI ru), .long wp, .long wl]))] sz) := by
  refine vx_ofW (cc := cX5_echo) (maxL := 3) (ret := (some .long)) (by decide) rfl ?_
  intro p e s m args below meth c s₁ B hml hnt hv
  obtain ⟨hargs, ⟨hsz, hP, hT, hD0⟩, hST, hSQ⟩ := hv
  have hx := B.exec
  have hb := B.bytes
  have hr := B.returns
  have hts := atoms_spec (ws := wsX5_echo) B.pre
  have hown : s.vm.findClass RX5 = some m.cls := findClass_of_methodNamed B.named
  have hlocks := B.notSynchronized
  subst hsz
  have hK := hT.1
  have hD := hD0.self (sz := s.heap.size)
  generalize hAe : va_A [(h0, .inr (5, [.ref ai, .ref pu, .ref pa, .ref ga, .ref sc, .ref hi, .ref gr, .int (nI me), .int (nI dp), .int (bI up), .int (nI mi), .int (nI ru), .long wp, .long wl]))] s.heap.size = A at hD hSQ ⊢
  have hA : ∀ q : Nat, s.heap.size ≤ q → A q := fun q h => by rw [← hAe]; exact Or.inr h
  obtain ⟨H, hHe⟩ : ∃ H : Heap, H = s.heap := ⟨_, rfl⟩
  have hS : va_S A s.heap H [] := by rw [hHe]; exact va_S.rf
  rw [← hHe] at hP
  suffices K0 : W p l e (headSpec wsX5_echo ({ frames := 7, cells := 1, slots := 6, locals := 104 } : Room)).room s m args below meth c H [] 0 0 (vx_MQ below XQl (XC9 D A [(h0, .inr (5, [.ref ai, .ref pu, .ref pa, .ref ga, .ref sc, .ref hi, .ref gr, .int (nI me), .int (nI dp), .int (bI up), .int (nI mi), .int (nI ru), .long wp, .long wl]))] "java/lang/IllegalArgumentException") args s 1 6 A) (entryFrame m args 3) by rw [hHe] at K0; exact K0
  refine W.eq (g2 := entryFrame m ([.ref h0, .int (nI ki), .int x1] : List Value).toArray 3) (by rw [hargs]) ?_
  have hl := lv_entry ([.ref h0, .int (nI ki), .int x1]) (n := 3) (Nat.le_of_ble_eq_true rfl)
  rw [lg_entry_eq]
  generalize (lg_sl ([.ref h0, .int (nI ki), .int x1]) ++ List.replicate (3 - (lg_sl ([.ref h0, .int (nI ki), .int x1])).length) Slot.unset).toArray = ls at hl ⊢
  have hl : lv_has ls 3 [(0, .ref h0), (1, .int (nI ki)), (2, .int x1)] := hl
  generalize ([] : List Loc) = locs at hS ⊢
  refine lv_iload_n hx hb dX5_echo_0 rfl (lv_at hl 1 rfl) ?_
  refine cr_v (wc := []) (w1 := []) (ws2 := [(h0, .inr (5, [.ref ai, .ref pu, .ref pa, .ref ga, .ref sc, .ref hi, .ref gr, .int (nI me), .int (nI dp), .int (bI up), .int (nI mi), .int (nI ru), .long wp, .long wl]))]) hP hD hS hA [] rfl rfl rfl (va_runS (As := [.int (nI ki)]) (rest := []) ⟨hx, hb, hml, hown, hts⟩ (c_X5_requireKilometre l D cI cJ cZ ki (by omega) H.size) (va_cwS 1 hts gX5_echo_X5_requireKilometre rfl rfl rfl (by decide +kernel) ⟨Nat.le_of_ble_eq_true rfl, Nat.le_of_ble_eq_true rfl⟩) (pvS hT hP hD [] rfl rfl) rfl rfl hl.1 rfl (lv_room (Nat.le_of_ble_eq_true rfl)) dX5_echo_1 ⟨Nat.zero_le _, Nat.zero_le _⟩) (fun H locs hP hD hS => ?_)
  refine lv_iload_n hx hb dX5_echo_4 rfl (lv_at hl 2 rfl) ?_
  refine lv_iconst (v := nI 0) hx hb dX5_echo_5 (by decide) ?_
  refine lv_iconst (v := nI 3) hx hb dX5_echo_6 (by decide) ?_
  exact xo_v (wc := []) hnt hlocks hP hD hS hA [] rfl rfl (vx_runS (As := [.int x1, .int (nI 0), .int (nI 3)]) (rest := []) ⟨hx, hb, hml, hown, hts⟩ (x_X5_requireRange_bad l hlst D cI cJ cZ x1 0 3 (by first | assumption | omega) (by first | assumption | omega) (by first | assumption | omega) H.size) (va_cwS 3 hts gX5_echo_X5_requireRange rfl rfl rfl (by decide +kernel) ⟨Nat.le_of_ble_eq_true rfl, Nat.le_of_ble_eq_true rfl⟩) (pxS (wc := []) hT hP hD hA [] rfl rfl hST hSQ hS) rfl rfl hl.1 rfl (lv_room (Nat.le_of_ble_eq_true rfl)) dX5_echo_7 ⟨Nat.le_of_ble_eq_true rfl, Nat.le_of_ble_eq_true rfl⟩)
set_option maxHeartbeats 4000000 in
set_option maxRecDepth 100000 in
theorem x_X5_seen_0 (l : Launch) (hlst : l.stackTraces = false) (D : va_G) (cI cJ cZ : ClassId) (h0 : Nat) (ai : Nat) (pu : Nat) (pa : Nat) (ga : Nat) (sc : Nat) (hi : Nat) (gr : Nat) (me : Nat) (dp : Nat) (up : Bool) (mi : Nat) (ru : Nat) (wp : Int64) (wl : Int64) (x0 : Int32) (x1 : Int32) (hbad : x0.toInt < 0 ∨ 20 ≤ x0.toInt) (sz : Nat) : vx_Met l yX5_seen wsX5_seen ({ frames := 7, cells := 1, slots := 6, locals := 102 } : Room) (va_Pc [.ref h0, .int x0, .int x1] (xPre D cI cJ cZ [(h0, .inr (5, [.ref ai, .ref pu, .ref pa, .ref ga, .ref sc, .ref hi, .ref gr, .int (nI me), .int (nI dp), .int (bI up), .int (nI mi), .int (nI ru), .long wp, .long wl]))] sz)) XQl (XC9 D (va_A [(h0, .inr (5, [.ref ai, .ref pu, .ref pa, .ref ga, .ref sc, .ref hi, .ref gr, .int (nI me), .int (nI dp), .int (bI up), .int (nI mi), .int (nI ru), .long wp, .long wl]))] sz) [(h0, .inr (5, [.ref ai, .ref pu, .ref pa, .ref ga, .ref sc, .ref hi, .ref gr, .int (nI me), .int (nI dp), .int (bI up), .int (nI mi), .int (nI ru), .long wp, .long wl]))] "java/lang/IndexOutOfBoundsException") 1 6 (va_A [(h0, .inr (5, [.ref ai, .ref pu, .ref pa, .ref ga, .ref sc, .ref hi, .ref gr, .int (nI me), .int (nI dp), .int (bI up), .int (nI mi), .int (nI ru), .long wp, .long wl]))] sz) := by
  refine vx_ofW (cc := cX5_seen) (maxL := 3) (ret := (some .long)) (by decide) rfl ?_
  intro p e s m args below meth c s₁ B hml hnt hv
  obtain ⟨hargs, ⟨hsz, hP, hT, hD0⟩, hST, hSQ⟩ := hv
  have hx := B.exec
  have hb := B.bytes
  have hr := B.returns
  have hts := atoms_spec (ws := wsX5_seen) B.pre
  have hown : s.vm.findClass RX5 = some m.cls := findClass_of_methodNamed B.named
  have hlocks := B.notSynchronized
  subst hsz
  have hK := hT.1
  have hD := hD0.self (sz := s.heap.size)
  generalize hAe : va_A [(h0, .inr (5, [.ref ai, .ref pu, .ref pa, .ref ga, .ref sc, .ref hi, .ref gr, .int (nI me), .int (nI dp), .int (bI up), .int (nI mi), .int (nI ru), .long wp, .long wl]))] s.heap.size = A at hD hSQ ⊢
  have hA : ∀ q : Nat, s.heap.size ≤ q → A q := fun q h => by rw [← hAe]; exact Or.inr h
  obtain ⟨H, hHe⟩ : ∃ H : Heap, H = s.heap := ⟨_, rfl⟩
  have hS : va_S A s.heap H [] := by rw [hHe]; exact va_S.rf
  rw [← hHe] at hP
  suffices K0 : W p l e (headSpec wsX5_seen ({ frames := 7, cells := 1, slots := 6, locals := 102 } : Room)).room s m args below meth c H [] 0 0 (vx_MQ below XQl (XC9 D A [(h0, .inr (5, [.ref ai, .ref pu, .ref pa, .ref ga, .ref sc, .ref hi, .ref gr, .int (nI me), .int (nI dp), .int (bI up), .int (nI mi), .int (nI ru), .long wp, .long wl]))] "java/lang/IndexOutOfBoundsException") args s 1 6 A) (entryFrame m args 3) by rw [hHe] at K0; exact K0
  refine W.eq (g2 := entryFrame m ([.ref h0, .int x0, .int x1] : List Value).toArray 3) (by rw [hargs]) ?_
  have hl := lv_entry ([.ref h0, .int x0, .int x1]) (n := 3) (Nat.le_of_ble_eq_true rfl)
  rw [lg_entry_eq]
  generalize (lg_sl ([.ref h0, .int x0, .int x1]) ++ List.replicate (3 - (lg_sl ([.ref h0, .int x0, .int x1])).length) Slot.unset).toArray = ls at hl ⊢
  have hl : lv_has ls 3 [(0, .ref h0), (1, .int x0), (2, .int x1)] := hl
  generalize ([] : List Loc) = locs at hS ⊢
  refine lv_iload_n hx hb dX5_seen_0 rfl (lv_at hl 1 rfl) ?_
  exact xo_v (wc := []) hnt hlocks hP hD hS hA [] rfl rfl (vx_runS (As := [.int x0]) (rest := []) ⟨hx, hb, hml, hown, hts⟩ (x_X5_requireKilometre_bad l hlst D cI cJ cZ x0 (by first | assumption | omega) H.size) (va_cwS 1 hts gX5_seen_X5_requireKilometre rfl rfl rfl (by decide +kernel) ⟨Nat.le_of_ble_eq_true rfl, Nat.le_of_ble_eq_true rfl⟩) (pxS (wc := []) hT hP hD hA [] rfl rfl hST hSQ hS) rfl rfl hl.1 rfl (lv_room (Nat.le_of_ble_eq_true rfl)) dX5_seen_1 ⟨Nat.le_of_ble_eq_true rfl, Nat.le_of_ble_eq_true rfl⟩)
set_option maxHeartbeats 4000000 in
set_option maxRecDepth 100000 in
theorem x_X5_seen_1 (l : Launch) (hlst : l.stackTraces = false) (D : va_G) (cI cJ cZ : ClassId) (h0 : Nat) (ai : Nat) (pu : Nat) (pa : Nat) (ga : Nat) (sc : Nat) (hi : Nat) (gr : Nat) (me : Nat) (dp : Nat) (up : Bool) (mi : Nat) (ru : Nat) (wp : Int64) (wl : Int64) (ki : Nat) (x1 : Int32) (hki : ki < 20) (hbad : x1.toInt < 0 ∨ 3 < x1.toInt) (sz : Nat) : vx_Met l yX5_seen wsX5_seen ({ frames := 7, cells := 1, slots := 6, locals := 104 } : Room) (va_Pc [.ref h0, .int (nI ki), .int x1] (xPre D cI cJ cZ [(h0, .inr (5, [.ref ai, .ref pu, .ref pa, .ref ga, .ref sc, .ref hi, .ref gr, .int (nI me), .int (nI dp), .int (bI up), .int (nI mi), .int (nI ru), .long wp, .long wl]))] sz)) XQl (XC9 D (va_A [(h0, .inr (5, [.ref ai, .ref pu, .ref pa, .ref ga, .ref sc, .ref hi, .ref gr, .int (nI me), .int (nI dp), .int (bI up), .int (nI mi), .int (nI ru), .long wp, .long wl]))] sz) [(h0, .inr (5, [.ref ai, .ref pu, .ref pa, .ref ga, .ref sc, .ref hi, .ref gr, .int (nI me), .int (nI dp), .int (bI up), .int (nI mi), .int (nI ru), .long wp, .long wl]))] "java/lang/IllegalArgumentException") 1 6 (va_A [(h0, .inr (5, [.ref ai, .ref pu, .ref pa, .ref ga, .ref sc, .ref hi, .ref gr, .int (nI me), .int (nI dp), .int (bI up), .int (nI mi), .int (nI ru), .long wp, .long wl]))] sz) := by
  refine vx_ofW (cc := cX5_seen) (maxL := 3) (ret := (some .long)) (by decide) rfl ?_
  intro p e s m args below meth c s₁ B hml hnt hv
  obtain ⟨hargs, ⟨hsz, hP, hT, hD0⟩, hST, hSQ⟩ := hv
  have hx := B.exec
  have hb := B.bytes
  have hr := B.returns
  have hts := atoms_spec (ws := wsX5_seen) B.pre
  have hown : s.vm.findClass RX5 = some m.cls := findClass_of_methodNamed B.named
  have hlocks := B.notSynchronized
  subst hsz
  have hK := hT.1
  have hD := hD0.self (sz := s.heap.size)
  generalize hAe : va_A [(h0, .inr (5, [.ref ai, .ref pu, .ref pa, .ref ga, .ref sc, .ref hi, .ref gr, .int (nI me), .int (nI dp), .int (bI up), .int (nI mi), .int (nI ru), .long wp, .long wl]))] s.heap.size = A at hD hSQ ⊢
  have hA : ∀ q : Nat, s.heap.size ≤ q → A q := fun q h => by rw [← hAe]; exact Or.inr h
  obtain ⟨H, hHe⟩ : ∃ H : Heap, H = s.heap := ⟨_, rfl⟩
  have hS : va_S A s.heap H [] := by rw [hHe]; exact va_S.rf
  rw [← hHe] at hP
  suffices K0 : W p l e (headSpec wsX5_seen ({ frames := 7, cells := 1, slots := 6, locals := 104 } : Room)).room s m args below meth c H [] 0 0 (vx_MQ below XQl (XC9 D A [(h0, .inr (5, [.ref ai, .ref pu, .ref pa, .ref ga, .ref sc, .ref hi, .ref gr, .int (nI me), .int (nI dp), .int (bI up), .int (nI mi), .int (nI ru), .long wp, .long wl]))] "java/lang/IllegalArgumentException") args s 1 6 A) (entryFrame m args 3) by rw [hHe] at K0; exact K0
  refine W.eq (g2 := entryFrame m ([.ref h0, .int (nI ki), .int x1] : List Value).toArray 3) (by rw [hargs]) ?_
  have hl := lv_entry ([.ref h0, .int (nI ki), .int x1]) (n := 3) (Nat.le_of_ble_eq_true rfl)
  rw [lg_entry_eq]
  generalize (lg_sl ([.ref h0, .int (nI ki), .int x1]) ++ List.replicate (3 - (lg_sl ([.ref h0, .int (nI ki), .int x1])).length) Slot.unset).toArray = ls at hl ⊢
  have hl : lv_has ls 3 [(0, .ref h0), (1, .int (nI ki)), (2, .int x1)] := hl
  generalize ([] : List Loc) = locs at hS ⊢
  refine lv_iload_n hx hb dX5_seen_0 rfl (lv_at hl 1 rfl) ?_
  refine cr_v (wc := []) (w1 := []) (ws2 := [(h0, .inr (5, [.ref ai, .ref pu, .ref pa, .ref ga, .ref sc, .ref hi, .ref gr, .int (nI me), .int (nI dp), .int (bI up), .int (nI mi), .int (nI ru), .long wp, .long wl]))]) hP hD hS hA [] rfl rfl rfl (va_runS (As := [.int (nI ki)]) (rest := []) ⟨hx, hb, hml, hown, hts⟩ (c_X5_requireKilometre l D cI cJ cZ ki (by omega) H.size) (va_cwS 1 hts gX5_seen_X5_requireKilometre rfl rfl rfl (by decide +kernel) ⟨Nat.le_of_ble_eq_true rfl, Nat.le_of_ble_eq_true rfl⟩) (pvS hT hP hD [] rfl rfl) rfl rfl hl.1 rfl (lv_room (Nat.le_of_ble_eq_true rfl)) dX5_seen_1 ⟨Nat.zero_le _, Nat.zero_le _⟩) (fun H locs hP hD hS => ?_)
  refine lv_iload_n hx hb dX5_seen_4 rfl (lv_at hl 2 rfl) ?_
  refine lv_iconst (v := nI 0) hx hb dX5_seen_5 (by decide) ?_
  refine lv_iconst (v := nI 3) hx hb dX5_seen_6 (by decide) ?_
  exact xo_v (wc := []) hnt hlocks hP hD hS hA [] rfl rfl (vx_runS (As := [.int x1, .int (nI 0), .int (nI 3)]) (rest := []) ⟨hx, hb, hml, hown, hts⟩ (x_X5_requireRange_bad l hlst D cI cJ cZ x1 0 3 (by first | assumption | omega) (by first | assumption | omega) (by first | assumption | omega) H.size) (va_cwS 3 hts gX5_seen_X5_requireRange rfl rfl rfl (by decide +kernel) ⟨Nat.le_of_ble_eq_true rfl, Nat.le_of_ble_eq_true rfl⟩) (pxS (wc := []) hT hP hD hA [] rfl rfl hST hSQ hS) rfl rfl hl.1 rfl (lv_room (Nat.le_of_ble_eq_true rfl)) dX5_seen_7 ⟨Nat.le_of_ble_eq_true rfl, Nat.le_of_ble_eq_true rfl⟩)
set_option maxHeartbeats 4000000 in
set_option maxRecDepth 100000 in
theorem x_X5_rain_0 (l : Launch) (hlst : l.stackTraces = false) (D : va_G) (cI cJ cZ : ClassId) (h0 : Nat) (ai : Nat) (pu : Nat) (pa : Nat) (ga : Nat) (sc : Nat) (hi : Nat) (gr : Nat) (me : Nat) (dp : Nat) (up : Bool) (mi : Nat) (ru : Nat) (wp : Int64) (wl : Int64) (x0 : Int32) (hbad : x0.toInt < 0 ∨ 20 ≤ x0.toInt) (sz : Nat) : vx_Met l yX5_rain wsX5_rain ({ frames := 7, cells := 1, slots := 6, locals := 102 } : Room) (va_Pc [.ref h0, .int x0] (xPre D cI cJ cZ [(h0, .inr (5, [.ref ai, .ref pu, .ref pa, .ref ga, .ref sc, .ref hi, .ref gr, .int (nI me), .int (nI dp), .int (bI up), .int (nI mi), .int (nI ru), .long wp, .long wl]))] sz)) XQl (XC9 D (va_A [(h0, .inr (5, [.ref ai, .ref pu, .ref pa, .ref ga, .ref sc, .ref hi, .ref gr, .int (nI me), .int (nI dp), .int (bI up), .int (nI mi), .int (nI ru), .long wp, .long wl]))] sz) [(h0, .inr (5, [.ref ai, .ref pu, .ref pa, .ref ga, .ref sc, .ref hi, .ref gr, .int (nI me), .int (nI dp), .int (bI up), .int (nI mi), .int (nI ru), .long wp, .long wl]))] "java/lang/IndexOutOfBoundsException") 1 6 (va_A [(h0, .inr (5, [.ref ai, .ref pu, .ref pa, .ref ga, .ref sc, .ref hi, .ref gr, .int (nI me), .int (nI dp), .int (bI up), .int (nI mi), .int (nI ru), .long wp, .long wl]))] sz) := by
  refine vx_ofW (cc := cX5_rain) (maxL := 5) (ret := (some .long)) (by decide) rfl ?_
  intro p e s m args below meth c s₁ B hml hnt hv
  obtain ⟨hargs, ⟨hsz, hP, hT, hD0⟩, hST, hSQ⟩ := hv
  have hx := B.exec
  have hb := B.bytes
  have hr := B.returns
  have hts := atoms_spec (ws := wsX5_rain) B.pre
  have hown : s.vm.findClass RX5 = some m.cls := findClass_of_methodNamed B.named
  have hlocks := B.notSynchronized
  subst hsz
  have hK := hT.1
  have hD := hD0.self (sz := s.heap.size)
  generalize hAe : va_A [(h0, .inr (5, [.ref ai, .ref pu, .ref pa, .ref ga, .ref sc, .ref hi, .ref gr, .int (nI me), .int (nI dp), .int (bI up), .int (nI mi), .int (nI ru), .long wp, .long wl]))] s.heap.size = A at hD hSQ ⊢
  have hA : ∀ q : Nat, s.heap.size ≤ q → A q := fun q h => by rw [← hAe]; exact Or.inr h
  obtain ⟨H, hHe⟩ : ∃ H : Heap, H = s.heap := ⟨_, rfl⟩
  have hS : va_S A s.heap H [] := by rw [hHe]; exact va_S.rf
  rw [← hHe] at hP
  suffices K0 : W p l e (headSpec wsX5_rain ({ frames := 7, cells := 1, slots := 6, locals := 102 } : Room)).room s m args below meth c H [] 0 0 (vx_MQ below XQl (XC9 D A [(h0, .inr (5, [.ref ai, .ref pu, .ref pa, .ref ga, .ref sc, .ref hi, .ref gr, .int (nI me), .int (nI dp), .int (bI up), .int (nI mi), .int (nI ru), .long wp, .long wl]))] "java/lang/IndexOutOfBoundsException") args s 1 6 A) (entryFrame m args 5) by rw [hHe] at K0; exact K0
  refine W.eq (g2 := entryFrame m ([.ref h0, .int x0] : List Value).toArray 5) (by rw [hargs]) ?_
  have hl := lv_entry ([.ref h0, .int x0]) (n := 5) (Nat.le_of_ble_eq_true rfl)
  rw [lg_entry_eq]
  generalize (lg_sl ([.ref h0, .int x0]) ++ List.replicate (5 - (lg_sl ([.ref h0, .int x0])).length) Slot.unset).toArray = ls at hl ⊢
  have hl : lv_has ls 5 [(0, .ref h0), (1, .int x0)] := hl
  generalize ([] : List Loc) = locs at hS ⊢
  refine lv_iload_n hx hb dX5_rain_0 rfl (lv_at hl 1 rfl) ?_
  exact xo_v (wc := []) hnt hlocks hP hD hS hA [] rfl rfl (vx_runS (As := [.int x0]) (rest := []) ⟨hx, hb, hml, hown, hts⟩ (x_X5_requireKilometre_bad l hlst D cI cJ cZ x0 (by first | assumption | omega) H.size) (va_cwS 1 hts gX5_rain_X5_requireKilometre rfl rfl rfl (by decide +kernel) ⟨Nat.le_of_ble_eq_true rfl, Nat.le_of_ble_eq_true rfl⟩) (pxS (wc := []) hT hP hD hA [] rfl rfl hST hSQ hS) rfl rfl hl.1 rfl (lv_room (Nat.le_of_ble_eq_true rfl)) dX5_rain_1 ⟨Nat.le_of_ble_eq_true rfl, Nat.le_of_ble_eq_true rfl⟩)
set_option maxHeartbeats 4000000 in
set_option maxRecDepth 100000 in
theorem x_X5_rainBy_0 (l : Launch) (hlst : l.stackTraces = false) (D : va_G) (cI cJ cZ : ClassId) (h0 : Nat) (ai : Nat) (pu : Nat) (pa : Nat) (ga : Nat) (sc : Nat) (hi : Nat) (gr : Nat) (me : Nat) (dp : Nat) (up : Bool) (mi : Nat) (ru : Nat) (wp : Int64) (wl : Int64) (x0 : Int32) (x1 : Int32) (hbad : x0.toInt < 0 ∨ 20 ≤ x0.toInt) (sz : Nat) : vx_Met l yX5_rainBy wsX5_rainBy ({ frames := 7, cells := 1, slots := 6, locals := 102 } : Room) (va_Pc [.ref h0, .int x0, .int x1] (xPre D cI cJ cZ [(h0, .inr (5, [.ref ai, .ref pu, .ref pa, .ref ga, .ref sc, .ref hi, .ref gr, .int (nI me), .int (nI dp), .int (bI up), .int (nI mi), .int (nI ru), .long wp, .long wl]))] sz)) XQl (XC9 D (va_A [(h0, .inr (5, [.ref ai, .ref pu, .ref pa, .ref ga, .ref sc, .ref hi, .ref gr, .int (nI me), .int (nI dp), .int (bI up), .int (nI mi), .int (nI ru), .long wp, .long wl]))] sz) [(h0, .inr (5, [.ref ai, .ref pu, .ref pa, .ref ga, .ref sc, .ref hi, .ref gr, .int (nI me), .int (nI dp), .int (bI up), .int (nI mi), .int (nI ru), .long wp, .long wl]))] "java/lang/IndexOutOfBoundsException") 1 6 (va_A [(h0, .inr (5, [.ref ai, .ref pu, .ref pa, .ref ga, .ref sc, .ref hi, .ref gr, .int (nI me), .int (nI dp), .int (bI up), .int (nI mi), .int (nI ru), .long wp, .long wl]))] sz) := by
  refine vx_ofW (cc := cX5_rainBy) (maxL := 6) (ret := (some .long)) (by decide) rfl ?_
  intro p e s m args below meth c s₁ B hml hnt hv
  obtain ⟨hargs, ⟨hsz, hP, hT, hD0⟩, hST, hSQ⟩ := hv
  have hx := B.exec
  have hb := B.bytes
  have hr := B.returns
  have hts := atoms_spec (ws := wsX5_rainBy) B.pre
  have hown : s.vm.findClass RX5 = some m.cls := findClass_of_methodNamed B.named
  have hlocks := B.notSynchronized
  subst hsz
  have hK := hT.1
  have hD := hD0.self (sz := s.heap.size)
  generalize hAe : va_A [(h0, .inr (5, [.ref ai, .ref pu, .ref pa, .ref ga, .ref sc, .ref hi, .ref gr, .int (nI me), .int (nI dp), .int (bI up), .int (nI mi), .int (nI ru), .long wp, .long wl]))] s.heap.size = A at hD hSQ ⊢
  have hA : ∀ q : Nat, s.heap.size ≤ q → A q := fun q h => by rw [← hAe]; exact Or.inr h
  obtain ⟨H, hHe⟩ : ∃ H : Heap, H = s.heap := ⟨_, rfl⟩
  have hS : va_S A s.heap H [] := by rw [hHe]; exact va_S.rf
  rw [← hHe] at hP
  suffices K0 : W p l e (headSpec wsX5_rainBy ({ frames := 7, cells := 1, slots := 6, locals := 102 } : Room)).room s m args below meth c H [] 0 0 (vx_MQ below XQl (XC9 D A [(h0, .inr (5, [.ref ai, .ref pu, .ref pa, .ref ga, .ref sc, .ref hi, .ref gr, .int (nI me), .int (nI dp), .int (bI up), .int (nI mi), .int (nI ru), .long wp, .long wl]))] "java/lang/IndexOutOfBoundsException") args s 1 6 A) (entryFrame m args 6) by rw [hHe] at K0; exact K0
  refine W.eq (g2 := entryFrame m ([.ref h0, .int x0, .int x1] : List Value).toArray 6) (by rw [hargs]) ?_
  have hl := lv_entry ([.ref h0, .int x0, .int x1]) (n := 6) (Nat.le_of_ble_eq_true rfl)
  rw [lg_entry_eq]
  generalize (lg_sl ([.ref h0, .int x0, .int x1]) ++ List.replicate (6 - (lg_sl ([.ref h0, .int x0, .int x1])).length) Slot.unset).toArray = ls at hl ⊢
  have hl : lv_has ls 6 [(0, .ref h0), (1, .int x0), (2, .int x1)] := hl
  generalize ([] : List Loc) = locs at hS ⊢
  refine lv_iload_n hx hb dX5_rainBy_0 rfl (lv_at hl 1 rfl) ?_
  exact xo_v (wc := []) hnt hlocks hP hD hS hA [] rfl rfl (vx_runS (As := [.int x0]) (rest := []) ⟨hx, hb, hml, hown, hts⟩ (x_X5_requireKilometre_bad l hlst D cI cJ cZ x0 (by first | assumption | omega) H.size) (va_cwS 1 hts gX5_rainBy_X5_requireKilometre rfl rfl rfl (by decide +kernel) ⟨Nat.le_of_ble_eq_true rfl, Nat.le_of_ble_eq_true rfl⟩) (pxS (wc := []) hT hP hD hA [] rfl rfl hST hSQ hS) rfl rfl hl.1 rfl (lv_room (Nat.le_of_ble_eq_true rfl)) dX5_rainBy_1 ⟨Nat.le_of_ble_eq_true rfl, Nat.le_of_ble_eq_true rfl⟩)
set_option maxHeartbeats 4000000 in
set_option maxRecDepth 100000 in
theorem x_X5_rainBy_1 (l : Launch) (hlst : l.stackTraces = false) (D : va_G) (cI cJ cZ : ClassId) (h0 : Nat) (ai : Nat) (pu : Nat) (pa : Nat) (ga : Nat) (sc : Nat) (hi : Nat) (gr : Nat) (me : Nat) (dp : Nat) (up : Bool) (mi : Nat) (ru : Nat) (wp : Int64) (wl : Int64) (ki : Nat) (x1 : Int32) (hki : ki < 20) (hbad : x1.toInt < 1 ∨ 1000 < x1.toInt) (sz : Nat) : vx_Met l yX5_rainBy wsX5_rainBy ({ frames := 7, cells := 1, slots := 6, locals := 104 } : Room) (va_Pc [.ref h0, .int (nI ki), .int x1] (xPre D cI cJ cZ [(h0, .inr (5, [.ref ai, .ref pu, .ref pa, .ref ga, .ref sc, .ref hi, .ref gr, .int (nI me), .int (nI dp), .int (bI up), .int (nI mi), .int (nI ru), .long wp, .long wl]))] sz)) XQl (XC9 D (va_A [(h0, .inr (5, [.ref ai, .ref pu, .ref pa, .ref ga, .ref sc, .ref hi, .ref gr, .int (nI me), .int (nI dp), .int (bI up), .int (nI mi), .int (nI ru), .long wp, .long wl]))] sz) [(h0, .inr (5, [.ref ai, .ref pu, .ref pa, .ref ga, .ref sc, .ref hi, .ref gr, .int (nI me), .int (nI dp), .int (bI up), .int (nI mi), .int (nI ru), .long wp, .long wl]))] "java/lang/IllegalArgumentException") 1 6 (va_A [(h0, .inr (5, [.ref ai, .ref pu, .ref pa, .ref ga, .ref sc, .ref hi, .ref gr, .int (nI me), .int (nI dp), .int (bI up), .int (nI mi), .int (nI ru), .long wp, .long wl]))] sz) := by
  refine vx_ofW (cc := cX5_rainBy) (maxL := 6) (ret := (some .long)) (by decide) rfl ?_
  intro p e s m args below meth c s₁ B hml hnt hv
  obtain ⟨hargs, ⟨hsz, hP, hT, hD0⟩, hST, hSQ⟩ := hv
  have hx := B.exec
  have hb := B.bytes
  have hr := B.returns
  have hts := atoms_spec (ws := wsX5_rainBy) B.pre
  have hown : s.vm.findClass RX5 = some m.cls := findClass_of_methodNamed B.named
  have hlocks := B.notSynchronized
  subst hsz
  have hK := hT.1
  have hD := hD0.self (sz := s.heap.size)
  generalize hAe : va_A [(h0, .inr (5, [.ref ai, .ref pu, .ref pa, .ref ga, .ref sc, .ref hi, .ref gr, .int (nI me), .int (nI dp), .int (bI up), .int (nI mi), .int (nI ru), .long wp, .long wl]))] s.heap.size = A at hD hSQ ⊢
  have hA : ∀ q : Nat, s.heap.size ≤ q → A q := fun q h => by rw [← hAe]; exact Or.inr h
  obtain ⟨H, hHe⟩ : ∃ H : Heap, H = s.heap := ⟨_, rfl⟩
  have hS : va_S A s.heap H [] := by rw [hHe]; exact va_S.rf
  rw [← hHe] at hP
  suffices K0 : W p l e (headSpec wsX5_rainBy ({ frames := 7, cells := 1, slots := 6, locals := 104 } : Room)).room s m args below meth c H [] 0 0 (vx_MQ below XQl (XC9 D A [(h0, .inr (5, [.ref ai, .ref pu, .ref pa, .ref ga, .ref sc, .ref hi, .ref gr, .int (nI me), .int (nI dp), .int (bI up), .int (nI mi), .int (nI ru), .long wp, .long wl]))] "java/lang/IllegalArgumentException") args s 1 6 A) (entryFrame m args 6) by rw [hHe] at K0; exact K0
  refine W.eq (g2 := entryFrame m ([.ref h0, .int (nI ki), .int x1] : List Value).toArray 6) (by rw [hargs]) ?_
  have hl := lv_entry ([.ref h0, .int (nI ki), .int x1]) (n := 6) (Nat.le_of_ble_eq_true rfl)
  rw [lg_entry_eq]
  generalize (lg_sl ([.ref h0, .int (nI ki), .int x1]) ++ List.replicate (6 - (lg_sl ([.ref h0, .int (nI ki), .int x1])).length) Slot.unset).toArray = ls at hl ⊢
  have hl : lv_has ls 6 [(0, .ref h0), (1, .int (nI ki)), (2, .int x1)] := hl
  generalize ([] : List Loc) = locs at hS ⊢
  refine lv_iload_n hx hb dX5_rainBy_0 rfl (lv_at hl 1 rfl) ?_
  refine cr_v (wc := []) (w1 := []) (ws2 := [(h0, .inr (5, [.ref ai, .ref pu, .ref pa, .ref ga, .ref sc, .ref hi, .ref gr, .int (nI me), .int (nI dp), .int (bI up), .int (nI mi), .int (nI ru), .long wp, .long wl]))]) hP hD hS hA [] rfl rfl rfl (va_runS (As := [.int (nI ki)]) (rest := []) ⟨hx, hb, hml, hown, hts⟩ (c_X5_requireKilometre l D cI cJ cZ ki (by omega) H.size) (va_cwS 1 hts gX5_rainBy_X5_requireKilometre rfl rfl rfl (by decide +kernel) ⟨Nat.le_of_ble_eq_true rfl, Nat.le_of_ble_eq_true rfl⟩) (pvS hT hP hD [] rfl rfl) rfl rfl hl.1 rfl (lv_room (Nat.le_of_ble_eq_true rfl)) dX5_rainBy_1 ⟨Nat.zero_le _, Nat.zero_le _⟩) (fun H locs hP hD hS => ?_)
  refine lv_iload_n hx hb dX5_rainBy_4 rfl (lv_at hl 2 rfl) ?_
  refine lv_iconst (v := nI 1) hx hb dX5_rainBy_5 (by decide) ?_
  refine lv_sipush (v := nI 1000) hx hb dX5_rainBy_6 (by decide) ?_
  exact xo_v (wc := []) hnt hlocks hP hD hS hA [] rfl rfl (vx_runS (As := [.int x1, .int (nI 1), .int (nI 1000)]) (rest := []) ⟨hx, hb, hml, hown, hts⟩ (x_X5_requireRange_bad l hlst D cI cJ cZ x1 1 1000 (by first | assumption | omega) (by first | assumption | omega) (by first | assumption | omega) H.size) (va_cwS 3 hts gX5_rainBy_X5_requireRange rfl rfl rfl (by decide +kernel) ⟨Nat.le_of_ble_eq_true rfl, Nat.le_of_ble_eq_true rfl⟩) (pxS (wc := []) hT hP hD hA [] rfl rfl hST hSQ hS) rfl rfl hl.1 rfl (lv_room (Nat.le_of_ble_eq_true rfl)) dX5_rainBy_9 ⟨Nat.le_of_ble_eq_true rfl, Nat.le_of_ble_eq_true rfl⟩)
set_option maxHeartbeats 4000000 in
set_option maxRecDepth 100000 in
theorem x_X5_motion_0 (l : Launch) (hlst : l.stackTraces = false) (D : va_G) (cI cJ cZ : ClassId) (h0 : Nat) (ai : Nat) (pu : Nat) (pa : Nat) (ga : Nat) (sc : Nat) (hi : Nat) (gr : Nat) (me : Nat) (dp : Nat) (up : Bool) (mi : Nat) (ru : Nat) (wp : Int64) (wl : Int64) (s1 : Nat) (s2 : Nat) (EC : Nat → Int64) (RU : Nat → Nat) (sm : Nat) (hsm : sm < 2) (sz : Nat) : vx_Met l yX5_motion wsX5_motion ({ frames := 6, cells := 1, slots := 6, locals := 82 } : Room) (va_Pc [.ref h0] (xPre D cI cJ cZ [(h0, .inr (5, [.ref ai, .ref pu, .ref pa, .ref ga, .ref sc, .ref hi, .ref gr, .int (nI me), .int (nI dp), .int (bI up), .int (nI mi), .int (nI ru), .long wp, .long wl])), (sc, .inr (4, [.ref s1, .ref s2, .int (nI sm)])), (s1, .inl (cJ, 600, .inr (.inl EC))), (s2, .inl (cI, 30, .inl (nA RU)))] sz)) XQi (XC9 D (va_A [(h0, .inr (5, [.ref ai, .ref pu, .ref pa, .ref ga, .ref sc, .ref hi, .ref gr, .int (nI me), .int (nI dp), .int (bI up), .int (nI mi), .int (nI ru), .long wp, .long wl])), (sc, .inr (4, [.ref s1, .ref s2, .int (nI sm)])), (s1, .inl (cJ, 600, .inr (.inl EC))), (s2, .inl (cI, 30, .inl (nA RU)))] sz) [(h0, .inr (5, [.ref ai, .ref pu, .ref pa, .ref ga, .ref sc, .ref hi, .ref gr, .int (nI me), .int (nI dp), .int (bI up), .int (nI mi), .int (nI ru), .long wp, .long wl])), (sc, .inr (4, [.ref s1, .ref s2, .int (nI sm)])), (s1, .inl (cJ, 600, .inr (.inl EC))), (s2, .inl (cI, 30, .inl (nA RU)))] "java/lang/IllegalStateException") 1 6 (va_A [(h0, .inr (5, [.ref ai, .ref pu, .ref pa, .ref ga, .ref sc, .ref hi, .ref gr, .int (nI me), .int (nI dp), .int (bI up), .int (nI mi), .int (nI ru), .long wp, .long wl])), (sc, .inr (4, [.ref s1, .ref s2, .int (nI sm)])), (s1, .inl (cJ, 600, .inr (.inl EC))), (s2, .inl (cI, 30, .inl (nA RU)))] sz) := by
  refine vx_ofW (cc := cX5_motion) (maxL := 9) (ret := (some .int)) (by decide) rfl ?_
  intro p e s m args below meth c s₁ B hml hnt hv
  obtain ⟨hargs, ⟨hsz, hP, hT, hD0⟩, hST, hSQ⟩ := hv
  have hx := B.exec
  have hb := B.bytes
  have hr := B.returns
  have hts := atoms_spec (ws := wsX5_motion) B.pre
  have hown : s.vm.findClass RX5 = some m.cls := findClass_of_methodNamed B.named
  have hlocks := B.notSynchronized
  subst hsz
  have hK := hT.1
  have hD := hD0.self (sz := s.heap.size)
  generalize hAe : va_A [(h0, .inr (5, [.ref ai, .ref pu, .ref pa, .ref ga, .ref sc, .ref hi, .ref gr, .int (nI me), .int (nI dp), .int (bI up), .int (nI mi), .int (nI ru), .long wp, .long wl])), (sc, .inr (4, [.ref s1, .ref s2, .int (nI sm)])), (s1, .inl (cJ, 600, .inr (.inl EC))), (s2, .inl (cI, 30, .inl (nA RU)))] s.heap.size = A at hD hSQ ⊢
  have hA : ∀ q : Nat, s.heap.size ≤ q → A q := fun q h => by rw [← hAe]; exact Or.inr h
  obtain ⟨H, hHe⟩ : ∃ H : Heap, H = s.heap := ⟨_, rfl⟩
  have hS : va_S A s.heap H [] := by rw [hHe]; exact va_S.rf
  rw [← hHe] at hP
  suffices K0 : W p l e (headSpec wsX5_motion ({ frames := 6, cells := 1, slots := 6, locals := 82 } : Room)).room s m args below meth c H [] 0 0 (vx_MQ below XQi (XC9 D A [(h0, .inr (5, [.ref ai, .ref pu, .ref pa, .ref ga, .ref sc, .ref hi, .ref gr, .int (nI me), .int (nI dp), .int (bI up), .int (nI mi), .int (nI ru), .long wp, .long wl])), (sc, .inr (4, [.ref s1, .ref s2, .int (nI sm)])), (s1, .inl (cJ, 600, .inr (.inl EC))), (s2, .inl (cI, 30, .inl (nA RU)))] "java/lang/IllegalStateException") args s 1 6 A) (entryFrame m args 9) by rw [hHe] at K0; exact K0
  refine W.eq (g2 := entryFrame m ([.ref h0] : List Value).toArray 9) (by rw [hargs]) ?_
  have hl := lv_entry ([.ref h0]) (n := 9) (Nat.le_of_ble_eq_true rfl)
  rw [lg_entry_eq]
  generalize (lg_sl ([.ref h0]) ++ List.replicate (9 - (lg_sl ([.ref h0])).length) Slot.unset).toArray = ls at hl ⊢
  have hl : lv_has ls 9 [(0, .ref h0)] := hl
  generalize ([] : List Loc) = locs at hS ⊢
  have hinX5 : ∀ w ∈ wsX50, w ∈ wsX5_motion := by decide +kernel
  have hf40 := hts (.fieldLink RX5 40 "Brightband" "scans" "LBrightband$Scans;") (by decide +kernel)
  have hinX4 : ∀ w ∈ wsX40, w ∈ wsX5_motion := by decide +kernel
  refine lv_aload_n hx hb dX5_motion_0 rfl (lv_at hl 0 rfl) ?_
  refine va_get (D := D) (ci := 5) (v := .ref sc) (C := RX5) (T := TX5) (N := 14) hx hb hts hinX5 hown hK hP 0 rfl rfl 4 (by decide) hf40 (fun _ h9 => h9) rfl dX5_motion_1 ?_
  refine va_getN (D := D) (ci := 4) (v := .int (nI sm)) (C := RX4) (T := TX4) (N := 3) hx hb hts hinX4 hown hK hP 1 rfl rfl 2 (by decide) (va_Nw.use rfl hT.2.2.2.2.2.2.2.2.2.1) (fun _ h9 => h9) rfl dX5_motion_4 ?_
  refine lv_iconst (v := nI 2) hx hb dX5_motion_7 (by decide) ?_
  refine ci_ge (tgt := 21) hx hb dX5_motion_8 (by decide) (nT (by omega)) (nT (by omega)) (fun c_8 => by omega) (fun c_8 => ?_)
  obtain ⟨sa, hsa⟩ := hST.1.2.2.2.2.2.2.2
  exact thr9 (own := RX5) (cls := "java/lang/IllegalStateException") (ik := 90) (is := 176) (ic := 94) hx hb hlst hown (by decide +kernel) (hts (.classLink RX5 90 "java/lang/IllegalStateException") (by decide +kernel)) (hts (.initialized "java/lang/IllegalStateException") (by decide +kernel)) hsa (fun w h => hts w (List.mem_cons_of_mem _ (List.mem_append_right _ h))) (by decide +kernel) hST.2.1.1.2.2 hST.2.2 (by decide +kernel) hSQ hP hD hS (hl.1.trans hml.symm) dX5_motion_11 dX5_motion_14 dX5_motion_15 dX5_motion_17 dX5_motion_20 hnt (Nat.le_of_ble_eq_true rfl) (Nat.le_of_ble_eq_true rfl) (Nat.le_of_ble_eq_true rfl) (Nat.le_of_ble_eq_true rfl) hlocks
set_option maxHeartbeats 4000000 in
set_option maxRecDepth 100000 in
theorem x_X5_collected_0 (l : Launch) (hlst : l.stackTraces = false) (D : va_G) (cI cJ cZ : ClassId) (h0 : Nat) (ai : Nat) (pu : Nat) (pa : Nat) (ga : Nat) (sc : Nat) (hi : Nat) (gr : Nat) (me : Nat) (dp : Nat) (up : Bool) (mi : Nat) (ru : Nat) (wp : Int64) (wl : Int64) (x0 : Int32) (hbad : x0.toInt < 0 ∨ 20 ≤ x0.toInt) (sz : Nat) : vx_Met l yX5_collected wsX5_collected ({ frames := 7, cells := 1, slots := 6, locals := 102 } : Room) (va_Pc [.ref h0, .int x0] (xPre D cI cJ cZ [(h0, .inr (5, [.ref ai, .ref pu, .ref pa, .ref ga, .ref sc, .ref hi, .ref gr, .int (nI me), .int (nI dp), .int (bI up), .int (nI mi), .int (nI ru), .long wp, .long wl]))] sz)) XQl (XC9 D (va_A [(h0, .inr (5, [.ref ai, .ref pu, .ref pa, .ref ga, .ref sc, .ref hi, .ref gr, .int (nI me), .int (nI dp), .int (bI up), .int (nI mi), .int (nI ru), .long wp, .long wl]))] sz) [(h0, .inr (5, [.ref ai, .ref pu, .ref pa, .ref ga, .ref sc, .ref hi, .ref gr, .int (nI me), .int (nI dp), .int (bI up), .int (nI mi), .int (nI ru), .long wp, .long wl]))] "java/lang/IndexOutOfBoundsException") 1 6 (va_A [(h0, .inr (5, [.ref ai, .ref pu, .ref pa, .ref ga, .ref sc, .ref hi, .ref gr, .int (nI me), .int (nI dp), .int (bI up), .int (nI mi), .int (nI ru), .long wp, .long wl]))] sz) := by
  refine vx_ofW (cc := cX5_collected) (maxL := 2) (ret := (some .long)) (by decide) rfl ?_
  intro p e s m args below meth c s₁ B hml hnt hv
  obtain ⟨hargs, ⟨hsz, hP, hT, hD0⟩, hST, hSQ⟩ := hv
  have hx := B.exec
  have hb := B.bytes
  have hr := B.returns
  have hts := atoms_spec (ws := wsX5_collected) B.pre
  have hown : s.vm.findClass RX5 = some m.cls := findClass_of_methodNamed B.named
  have hlocks := B.notSynchronized
  subst hsz
  have hK := hT.1
  have hD := hD0.self (sz := s.heap.size)
  generalize hAe : va_A [(h0, .inr (5, [.ref ai, .ref pu, .ref pa, .ref ga, .ref sc, .ref hi, .ref gr, .int (nI me), .int (nI dp), .int (bI up), .int (nI mi), .int (nI ru), .long wp, .long wl]))] s.heap.size = A at hD hSQ ⊢
  have hA : ∀ q : Nat, s.heap.size ≤ q → A q := fun q h => by rw [← hAe]; exact Or.inr h
  obtain ⟨H, hHe⟩ : ∃ H : Heap, H = s.heap := ⟨_, rfl⟩
  have hS : va_S A s.heap H [] := by rw [hHe]; exact va_S.rf
  rw [← hHe] at hP
  suffices K0 : W p l e (headSpec wsX5_collected ({ frames := 7, cells := 1, slots := 6, locals := 102 } : Room)).room s m args below meth c H [] 0 0 (vx_MQ below XQl (XC9 D A [(h0, .inr (5, [.ref ai, .ref pu, .ref pa, .ref ga, .ref sc, .ref hi, .ref gr, .int (nI me), .int (nI dp), .int (bI up), .int (nI mi), .int (nI ru), .long wp, .long wl]))] "java/lang/IndexOutOfBoundsException") args s 1 6 A) (entryFrame m args 2) by rw [hHe] at K0; exact K0
  refine W.eq (g2 := entryFrame m ([.ref h0, .int x0] : List Value).toArray 2) (by rw [hargs]) ?_
  have hl := lv_entry ([.ref h0, .int x0]) (n := 2) (Nat.le_of_ble_eq_true rfl)
  rw [lg_entry_eq]
  generalize (lg_sl ([.ref h0, .int x0]) ++ List.replicate (2 - (lg_sl ([.ref h0, .int x0])).length) Slot.unset).toArray = ls at hl ⊢
  have hl : lv_has ls 2 [(0, .ref h0), (1, .int x0)] := hl
  generalize ([] : List Loc) = locs at hS ⊢
  refine lv_iload_n hx hb dX5_collected_0 rfl (lv_at hl 1 rfl) ?_
  exact xo_v (wc := []) hnt hlocks hP hD hS hA [] rfl rfl (vx_runS (As := [.int x0]) (rest := []) ⟨hx, hb, hml, hown, hts⟩ (x_X5_requireKilometre_bad l hlst D cI cJ cZ x0 (by first | assumption | omega) H.size) (va_cwS 1 hts gX5_collected_X5_requireKilometre rfl rfl rfl (by decide +kernel) ⟨Nat.le_of_ble_eq_true rfl, Nat.le_of_ble_eq_true rfl⟩) (pxS (wc := []) hT hP hD hA [] rfl rfl hST hSQ hS) rfl rfl hl.1 rfl (lv_room (Nat.le_of_ble_eq_true rfl)) dX5_collected_1 ⟨Nat.le_of_ble_eq_true rfl, Nat.le_of_ble_eq_true rfl⟩)
set_option maxHeartbeats 4000000 in
set_option maxRecDepth 100000 in
theorem x_X5_collected_1 (l : Launch) (hlst : l.stackTraces = false) (D : va_G) (cI cJ cZ : ClassId) (h0 : Nat) (ai : Nat) (pu : Nat) (pa : Nat) (ga : Nat) (sc : Nat) (hi : Nat) (gr : Nat) (me : Nat) (dp : Nat) (up : Bool) (mi : Nat) (ru : Nat) (wp : Int64) (wl : Int64) (g1 : Nat) (g2 : Nat) (g3 : Nat) (UP : Nat → Bool) (CL : Nat → Bool) (CO : Nat → Int64) (ki : Nat) (hki : ki < 20) (hup : UP ki = false) (sz : Nat) : vx_Met l yX5_collected wsX5_collected ({ frames := 7, cells := 1, slots := 6, locals := 103 } : Room) (va_Pc [.ref h0, .int (nI ki)] (xPre D cI cJ cZ [(h0, .inr (5, [.ref ai, .ref pu, .ref pa, .ref ga, .ref sc, .ref hi, .ref gr, .int (nI me), .int (nI dp), .int (bI up), .int (nI mi), .int (nI ru), .long wp, .long wl])), (ga, .inr (1, [.ref g1, .ref g2, .ref g3])), (g1, .inl (cZ, 20, .inl (bA UP))), (g2, .inl (cZ, 20, .inl (bA CL))), (g3, .inl (cJ, 20, .inr (.inl CO)))] sz)) XQl (XC9 D (va_A [(h0, .inr (5, [.ref ai, .ref pu, .ref pa, .ref ga, .ref sc, .ref hi, .ref gr, .int (nI me), .int (nI dp), .int (bI up), .int (nI mi), .int (nI ru), .long wp, .long wl])), (ga, .inr (1, [.ref g1, .ref g2, .ref g3])), (g1, .inl (cZ, 20, .inl (bA UP))), (g2, .inl (cZ, 20, .inl (bA CL))), (g3, .inl (cJ, 20, .inr (.inl CO)))] sz) [(h0, .inr (5, [.ref ai, .ref pu, .ref pa, .ref ga, .ref sc, .ref hi, .ref gr, .int (nI me), .int (nI dp), .int (bI up), .int (nI mi), .int (nI ru), .long wp, .long wl])), (ga, .inr (1, [.ref g1, .ref g2, .ref g3])), (g1, .inl (cZ, 20, .inl (bA UP))), (g2, .inl (cZ, 20, .inl (bA CL))), (g3, .inl (cJ, 20, .inr (.inl CO)))] "java/lang/IndexOutOfBoundsException") 1 6 (va_A [(h0, .inr (5, [.ref ai, .ref pu, .ref pa, .ref ga, .ref sc, .ref hi, .ref gr, .int (nI me), .int (nI dp), .int (bI up), .int (nI mi), .int (nI ru), .long wp, .long wl])), (ga, .inr (1, [.ref g1, .ref g2, .ref g3])), (g1, .inl (cZ, 20, .inl (bA UP))), (g2, .inl (cZ, 20, .inl (bA CL))), (g3, .inl (cJ, 20, .inr (.inl CO)))] sz) := by
  refine vx_ofW (cc := cX5_collected) (maxL := 2) (ret := (some .long)) (by decide) rfl ?_
  intro p e s m args below meth c s₁ B hml hnt hv
  obtain ⟨hargs, ⟨hsz, hP, hT, hD0⟩, hST, hSQ⟩ := hv
  have hx := B.exec
  have hb := B.bytes
  have hr := B.returns
  have hts := atoms_spec (ws := wsX5_collected) B.pre
  have hown : s.vm.findClass RX5 = some m.cls := findClass_of_methodNamed B.named
  have hlocks := B.notSynchronized
  subst hsz
  have hK := hT.1
  have hD := hD0.self (sz := s.heap.size)
  generalize hAe : va_A [(h0, .inr (5, [.ref ai, .ref pu, .ref pa, .ref ga, .ref sc, .ref hi, .ref gr, .int (nI me), .int (nI dp), .int (bI up), .int (nI mi), .int (nI ru), .long wp, .long wl])), (ga, .inr (1, [.ref g1, .ref g2, .ref g3])), (g1, .inl (cZ, 20, .inl (bA UP))), (g2, .inl (cZ, 20, .inl (bA CL))), (g3, .inl (cJ, 20, .inr (.inl CO)))] s.heap.size = A at hD hSQ ⊢
  have hA : ∀ q : Nat, s.heap.size ≤ q → A q := fun q h => by rw [← hAe]; exact Or.inr h
  obtain ⟨H, hHe⟩ : ∃ H : Heap, H = s.heap := ⟨_, rfl⟩
  have hS : va_S A s.heap H [] := by rw [hHe]; exact va_S.rf
  rw [← hHe] at hP
  suffices K0 : W p l e (headSpec wsX5_collected ({ frames := 7, cells := 1, slots := 6, locals := 103 } : Room)).room s m args below meth c H [] 0 0 (vx_MQ below XQl (XC9 D A [(h0, .inr (5, [.ref ai, .ref pu, .ref pa, .ref ga, .ref sc, .ref hi, .ref gr, .int (nI me), .int (nI dp), .int (bI up), .int (nI mi), .int (nI ru), .long wp, .long wl])), (ga, .inr (1, [.ref g1, .ref g2, .ref g3])), (g1, .inl (cZ, 20, .inl (bA UP))), (g2, .inl (cZ, 20, .inl (bA CL))), (g3, .inl (cJ, 20, .inr (.inl CO)))] "java/lang/IndexOutOfBoundsException") args s 1 6 A) (entryFrame m args 2) by rw [hHe] at K0; exact K0
  refine W.eq (g2 := entryFrame m ([.ref h0, .int (nI ki)] : List Value).toArray 2) (by rw [hargs]) ?_
  have hl := lv_entry ([.ref h0, .int (nI ki)]) (n := 2) (Nat.le_of_ble_eq_true rfl)
  rw [lg_entry_eq]
  generalize (lg_sl ([.ref h0, .int (nI ki)]) ++ List.replicate (2 - (lg_sl ([.ref h0, .int (nI ki)])).length) Slot.unset).toArray = ls at hl ⊢
  have hl : lv_has ls 2 [(0, .ref h0), (1, .int (nI ki))] := hl
  generalize ([] : List Loc) = locs at hS ⊢
  refine lv_iload_n hx hb dX5_collected_0 rfl (lv_at hl 1 rfl) ?_
  refine cr_v (wc := []) (w1 := []) (ws2 := [(h0, .inr (5, [.ref ai, .ref pu, .ref pa, .ref ga, .ref sc, .ref hi, .ref gr, .int (nI me), .int (nI dp), .int (bI up), .int (nI mi), .int (nI ru), .long wp, .long wl])), (ga, .inr (1, [.ref g1, .ref g2, .ref g3])), (g1, .inl (cZ, 20, .inl (bA UP))), (g2, .inl (cZ, 20, .inl (bA CL))), (g3, .inl (cJ, 20, .inr (.inl CO)))]) hP hD hS hA [] rfl rfl rfl (va_runS (As := [.int (nI ki)]) (rest := []) ⟨hx, hb, hml, hown, hts⟩ (c_X5_requireKilometre l D cI cJ cZ ki (by omega) H.size) (va_cwS 1 hts gX5_collected_X5_requireKilometre rfl rfl rfl (by decide +kernel) ⟨Nat.le_of_ble_eq_true rfl, Nat.le_of_ble_eq_true rfl⟩) (pvS hT hP hD [] rfl rfl) rfl rfl hl.1 rfl (lv_room (Nat.le_of_ble_eq_true rfl)) dX5_collected_1 ⟨Nat.zero_le _, Nat.zero_le _⟩) (fun H locs hP hD hS => ?_)
  refine lv_aload_n hx hb dX5_collected_4 rfl (lv_at hl 0 rfl) ?_
  refine lv_iload_n hx hb dX5_collected_5 rfl (lv_at hl 1 rfl) ?_
  exact xo_v (wc := [(h0, .inr (5, [.ref ai, .ref pu, .ref pa, .ref ga, .ref sc, .ref hi, .ref gr, .int (nI me), .int (nI dp), .int (bI up), .int (nI mi), .int (nI ru), .long wp, .long wl])), (ga, .inr (1, [.ref g1, .ref g2, .ref g3])), (g1, .inl (cZ, 20, .inl (bA UP))), (g2, .inl (cZ, 20, .inl (bA CL))), (g3, .inl (cJ, 20, .inr (.inl CO)))]) hnt hlocks hP hD hS hA [0, 1, 2, 3, 4] rfl rfl (vx_runV (As := [.int (nI ki)]) (rest := []) ⟨hx, hb, hml, hown, hts⟩ (x_X5_requireGauge_bad l hlst D cI cJ cZ h0 ai pu pa ga sc hi gr me dp up mi ru wp wl g1 g2 g3 UP CL CO ki hki hup H.size) (cwV 1 hts gX5_collected_X5_requireGauge rfl rfl rfl (by decide +kernel) ⟨Nat.le_of_ble_eq_true rfl, Nat.le_of_ble_eq_true rfl⟩) (pxV (wc := [(h0, .inr (5, [.ref ai, .ref pu, .ref pa, .ref ga, .ref sc, .ref hi, .ref gr, .int (nI me), .int (nI dp), .int (bI up), .int (nI mi), .int (nI ru), .long wp, .long wl])), (ga, .inr (1, [.ref g1, .ref g2, .ref g3])), (g1, .inl (cZ, 20, .inl (bA UP))), (g2, .inl (cZ, 20, .inl (bA CL))), (g3, .inl (cJ, 20, .inr (.inl CO)))]) hT hP hD hA [0, 1, 2, 3, 4] rfl rfl 0 rfl rfl hST hSQ hS) rfl rfl hl.1 rfl (lv_room (Nat.le_of_ble_eq_true rfl)) dX5_collected_6 ⟨Nat.le_of_ble_eq_true rfl, Nat.le_of_ble_eq_true rfl⟩)
set_option maxHeartbeats 4000000 in
set_option maxRecDepth 100000 in
theorem x_X5_ground_0 (l : Launch) (hlst : l.stackTraces = false) (D : va_G) (cI cJ cZ : ClassId) (h0 : Nat) (ai : Nat) (pu : Nat) (pa : Nat) (ga : Nat) (sc : Nat) (hi : Nat) (gr : Nat) (me : Nat) (dp : Nat) (up : Bool) (mi : Nat) (ru : Nat) (wp : Int64) (wl : Int64) (x0 : Int32) (hbad : x0.toInt < 0 ∨ 20 ≤ x0.toInt) (sz : Nat) : vx_Met l yX5_ground wsX5_ground ({ frames := 7, cells := 1, slots := 6, locals := 102 } : Room) (va_Pc [.ref h0, .int x0] (xPre D cI cJ cZ [(h0, .inr (5, [.ref ai, .ref pu, .ref pa, .ref ga, .ref sc, .ref hi, .ref gr, .int (nI me), .int (nI dp), .int (bI up), .int (nI mi), .int (nI ru), .long wp, .long wl]))] sz)) XQl (XC9 D (va_A [(h0, .inr (5, [.ref ai, .ref pu, .ref pa, .ref ga, .ref sc, .ref hi, .ref gr, .int (nI me), .int (nI dp), .int (bI up), .int (nI mi), .int (nI ru), .long wp, .long wl]))] sz) [(h0, .inr (5, [.ref ai, .ref pu, .ref pa, .ref ga, .ref sc, .ref hi, .ref gr, .int (nI me), .int (nI dp), .int (bI up), .int (nI mi), .int (nI ru), .long wp, .long wl]))] "java/lang/IndexOutOfBoundsException") 1 6 (va_A [(h0, .inr (5, [.ref ai, .ref pu, .ref pa, .ref ga, .ref sc, .ref hi, .ref gr, .int (nI me), .int (nI dp), .int (bI up), .int (nI mi), .int (nI ru), .long wp, .long wl]))] sz) := by
  refine vx_ofW (cc := cX5_ground) (maxL := 2) (ret := (some .long)) (by decide) rfl ?_
  intro p e s m args below meth c s₁ B hml hnt hv
  obtain ⟨hargs, ⟨hsz, hP, hT, hD0⟩, hST, hSQ⟩ := hv
  have hx := B.exec
  have hb := B.bytes
  have hr := B.returns
  have hts := atoms_spec (ws := wsX5_ground) B.pre
  have hown : s.vm.findClass RX5 = some m.cls := findClass_of_methodNamed B.named
  have hlocks := B.notSynchronized
  subst hsz
  have hK := hT.1
  have hD := hD0.self (sz := s.heap.size)
  generalize hAe : va_A [(h0, .inr (5, [.ref ai, .ref pu, .ref pa, .ref ga, .ref sc, .ref hi, .ref gr, .int (nI me), .int (nI dp), .int (bI up), .int (nI mi), .int (nI ru), .long wp, .long wl]))] s.heap.size = A at hD hSQ ⊢
  have hA : ∀ q : Nat, s.heap.size ≤ q → A q := fun q h => by rw [← hAe]; exact Or.inr h
  obtain ⟨H, hHe⟩ : ∃ H : Heap, H = s.heap := ⟨_, rfl⟩
  have hS : va_S A s.heap H [] := by rw [hHe]; exact va_S.rf
  rw [← hHe] at hP
  suffices K0 : W p l e (headSpec wsX5_ground ({ frames := 7, cells := 1, slots := 6, locals := 102 } : Room)).room s m args below meth c H [] 0 0 (vx_MQ below XQl (XC9 D A [(h0, .inr (5, [.ref ai, .ref pu, .ref pa, .ref ga, .ref sc, .ref hi, .ref gr, .int (nI me), .int (nI dp), .int (bI up), .int (nI mi), .int (nI ru), .long wp, .long wl]))] "java/lang/IndexOutOfBoundsException") args s 1 6 A) (entryFrame m args 2) by rw [hHe] at K0; exact K0
  refine W.eq (g2 := entryFrame m ([.ref h0, .int x0] : List Value).toArray 2) (by rw [hargs]) ?_
  have hl := lv_entry ([.ref h0, .int x0]) (n := 2) (Nat.le_of_ble_eq_true rfl)
  rw [lg_entry_eq]
  generalize (lg_sl ([.ref h0, .int x0]) ++ List.replicate (2 - (lg_sl ([.ref h0, .int x0])).length) Slot.unset).toArray = ls at hl ⊢
  have hl : lv_has ls 2 [(0, .ref h0), (1, .int x0)] := hl
  generalize ([] : List Loc) = locs at hS ⊢
  refine lv_iload_n hx hb dX5_ground_0 rfl (lv_at hl 1 rfl) ?_
  exact xo_v (wc := []) hnt hlocks hP hD hS hA [] rfl rfl (vx_runS (As := [.int x0]) (rest := []) ⟨hx, hb, hml, hown, hts⟩ (x_X5_requireKilometre_bad l hlst D cI cJ cZ x0 (by first | assumption | omega) H.size) (va_cwS 1 hts gX5_ground_X5_requireKilometre rfl rfl rfl (by decide +kernel) ⟨Nat.le_of_ble_eq_true rfl, Nat.le_of_ble_eq_true rfl⟩) (pxS (wc := []) hT hP hD hA [] rfl rfl hST hSQ hS) rfl rfl hl.1 rfl (lv_room (Nat.le_of_ble_eq_true rfl)) dX5_ground_1 ⟨Nat.le_of_ble_eq_true rfl, Nat.le_of_ble_eq_true rfl⟩)
set_option maxHeartbeats 4000000 in
set_option maxRecDepth 100000 in
theorem x_X5_groundAnew_0 (l : Launch) (hlst : l.stackTraces = false) (D : va_G) (cI cJ cZ : ClassId) (h0 : Nat) (ai : Nat) (pu : Nat) (pa : Nat) (ga : Nat) (sc : Nat) (hi : Nat) (gr : Nat) (me : Nat) (dp : Nat) (up : Bool) (mi : Nat) (ru : Nat) (wp : Int64) (wl : Int64) (x0 : Int32) (hbad : x0.toInt < 0 ∨ 20 ≤ x0.toInt) (sz : Nat) : vx_Met l yX5_groundAnew wsX5_groundAnew ({ frames := 7, cells := 1, slots := 6, locals := 102 } : Room) (va_Pc [.ref h0, .int x0] (xPre D cI cJ cZ [(h0, .inr (5, [.ref ai, .ref pu, .ref pa, .ref ga, .ref sc, .ref hi, .ref gr, .int (nI me), .int (nI dp), .int (bI up), .int (nI mi), .int (nI ru), .long wp, .long wl]))] sz)) XQl (XC9 D (va_A [(h0, .inr (5, [.ref ai, .ref pu, .ref pa, .ref ga, .ref sc, .ref hi, .ref gr, .int (nI me), .int (nI dp), .int (bI up), .int (nI mi), .int (nI ru), .long wp, .long wl]))] sz) [(h0, .inr (5, [.ref ai, .ref pu, .ref pa, .ref ga, .ref sc, .ref hi, .ref gr, .int (nI me), .int (nI dp), .int (bI up), .int (nI mi), .int (nI ru), .long wp, .long wl]))] "java/lang/IndexOutOfBoundsException") 1 6 (va_A [(h0, .inr (5, [.ref ai, .ref pu, .ref pa, .ref ga, .ref sc, .ref hi, .ref gr, .int (nI me), .int (nI dp), .int (bI up), .int (nI mi), .int (nI ru), .long wp, .long wl]))] sz) := by
  refine vx_ofW (cc := cX5_groundAnew) (maxL := 5) (ret := (some .long)) (by decide) rfl ?_
  intro p e s m args below meth c s₁ B hml hnt hv
  obtain ⟨hargs, ⟨hsz, hP, hT, hD0⟩, hST, hSQ⟩ := hv
  have hx := B.exec
  have hb := B.bytes
  have hr := B.returns
  have hts := atoms_spec (ws := wsX5_groundAnew) B.pre
  have hown : s.vm.findClass RX5 = some m.cls := findClass_of_methodNamed B.named
  have hlocks := B.notSynchronized
  subst hsz
  have hK := hT.1
  have hD := hD0.self (sz := s.heap.size)
  generalize hAe : va_A [(h0, .inr (5, [.ref ai, .ref pu, .ref pa, .ref ga, .ref sc, .ref hi, .ref gr, .int (nI me), .int (nI dp), .int (bI up), .int (nI mi), .int (nI ru), .long wp, .long wl]))] s.heap.size = A at hD hSQ ⊢
  have hA : ∀ q : Nat, s.heap.size ≤ q → A q := fun q h => by rw [← hAe]; exact Or.inr h
  obtain ⟨H, hHe⟩ : ∃ H : Heap, H = s.heap := ⟨_, rfl⟩
  have hS : va_S A s.heap H [] := by rw [hHe]; exact va_S.rf
  rw [← hHe] at hP
  suffices K0 : W p l e (headSpec wsX5_groundAnew ({ frames := 7, cells := 1, slots := 6, locals := 102 } : Room)).room s m args below meth c H [] 0 0 (vx_MQ below XQl (XC9 D A [(h0, .inr (5, [.ref ai, .ref pu, .ref pa, .ref ga, .ref sc, .ref hi, .ref gr, .int (nI me), .int (nI dp), .int (bI up), .int (nI mi), .int (nI ru), .long wp, .long wl]))] "java/lang/IndexOutOfBoundsException") args s 1 6 A) (entryFrame m args 5) by rw [hHe] at K0; exact K0
  refine W.eq (g2 := entryFrame m ([.ref h0, .int x0] : List Value).toArray 5) (by rw [hargs]) ?_
  have hl := lv_entry ([.ref h0, .int x0]) (n := 5) (Nat.le_of_ble_eq_true rfl)
  rw [lg_entry_eq]
  generalize (lg_sl ([.ref h0, .int x0]) ++ List.replicate (5 - (lg_sl ([.ref h0, .int x0])).length) Slot.unset).toArray = ls at hl ⊢
  have hl : lv_has ls 5 [(0, .ref h0), (1, .int x0)] := hl
  generalize ([] : List Loc) = locs at hS ⊢
  refine lv_iload_n hx hb dX5_groundAnew_0 rfl (lv_at hl 1 rfl) ?_
  exact xo_v (wc := []) hnt hlocks hP hD hS hA [] rfl rfl (vx_runS (As := [.int x0]) (rest := []) ⟨hx, hb, hml, hown, hts⟩ (x_X5_requireKilometre_bad l hlst D cI cJ cZ x0 (by first | assumption | omega) H.size) (va_cwS 1 hts gX5_groundAnew_X5_requireKilometre rfl rfl rfl (by decide +kernel) ⟨Nat.le_of_ble_eq_true rfl, Nat.le_of_ble_eq_true rfl⟩) (pxS (wc := []) hT hP hD hA [] rfl rfl hST hSQ hS) rfl rfl hl.1 rfl (lv_room (Nat.le_of_ble_eq_true rfl)) dX5_groundAnew_1 ⟨Nat.le_of_ble_eq_true rfl, Nat.le_of_ble_eq_true rfl⟩)
set_option maxHeartbeats 4000000 in
set_option maxRecDepth 100000 in
theorem x_X5_water_0 (l : Launch) (hlst : l.stackTraces = false) (D : va_G) (cI cJ cZ : ClassId) (h0 : Nat) (ai : Nat) (pu : Nat) (pa : Nat) (ga : Nat) (sc : Nat) (hi : Nat) (gr : Nat) (me : Nat) (dp : Nat) (up : Bool) (mi : Nat) (ru : Nat) (wp : Int64) (wl : Int64) (x0 : Int32) (hbad : x0.toInt < 0 ∨ 3 < x0.toInt) (sz : Nat) : vx_Met l yX5_water wsX5_water ({ frames := 7, cells := 1, slots := 6, locals := 104 } : Room) (va_Pc [.ref h0, .int x0] (xPre D cI cJ cZ [(h0, .inr (5, [.ref ai, .ref pu, .ref pa, .ref ga, .ref sc, .ref hi, .ref gr, .int (nI me), .int (nI dp), .int (bI up), .int (nI mi), .int (nI ru), .long wp, .long wl]))] sz)) XQl (XC9 D (va_A [(h0, .inr (5, [.ref ai, .ref pu, .ref pa, .ref ga, .ref sc, .ref hi, .ref gr, .int (nI me), .int (nI dp), .int (bI up), .int (nI mi), .int (nI ru), .long wp, .long wl]))] sz) [(h0, .inr (5, [.ref ai, .ref pu, .ref pa, .ref ga, .ref sc, .ref hi, .ref gr, .int (nI me), .int (nI dp), .int (bI up), .int (nI mi), .int (nI ru), .long wp, .long wl]))] "java/lang/IllegalArgumentException") 1 6 (va_A [(h0, .inr (5, [.ref ai, .ref pu, .ref pa, .ref ga, .ref sc, .ref hi, .ref gr, .int (nI me), .int (nI dp), .int (bI up), .int (nI mi), .int (nI ru), .long wp, .long wl]))] sz) := by
  refine vx_ofW (cc := cX5_water) (maxL := 2) (ret := (some .long)) (by decide) rfl ?_
  intro p e s m args below meth c s₁ B hml hnt hv
  obtain ⟨hargs, ⟨hsz, hP, hT, hD0⟩, hST, hSQ⟩ := hv
  have hx := B.exec
  have hb := B.bytes
  have hr := B.returns
  have hts := atoms_spec (ws := wsX5_water) B.pre
  have hown : s.vm.findClass RX5 = some m.cls := findClass_of_methodNamed B.named
  have hlocks := B.notSynchronized
  subst hsz
  have hK := hT.1
  have hD := hD0.self (sz := s.heap.size)
  generalize hAe : va_A [(h0, .inr (5, [.ref ai, .ref pu, .ref pa, .ref ga, .ref sc, .ref hi, .ref gr, .int (nI me), .int (nI dp), .int (bI up), .int (nI mi), .int (nI ru), .long wp, .long wl]))] s.heap.size = A at hD hSQ ⊢
  have hA : ∀ q : Nat, s.heap.size ≤ q → A q := fun q h => by rw [← hAe]; exact Or.inr h
  obtain ⟨H, hHe⟩ : ∃ H : Heap, H = s.heap := ⟨_, rfl⟩
  have hS : va_S A s.heap H [] := by rw [hHe]; exact va_S.rf
  rw [← hHe] at hP
  suffices K0 : W p l e (headSpec wsX5_water ({ frames := 7, cells := 1, slots := 6, locals := 104 } : Room)).room s m args below meth c H [] 0 0 (vx_MQ below XQl (XC9 D A [(h0, .inr (5, [.ref ai, .ref pu, .ref pa, .ref ga, .ref sc, .ref hi, .ref gr, .int (nI me), .int (nI dp), .int (bI up), .int (nI mi), .int (nI ru), .long wp, .long wl]))] "java/lang/IllegalArgumentException") args s 1 6 A) (entryFrame m args 2) by rw [hHe] at K0; exact K0
  refine W.eq (g2 := entryFrame m ([.ref h0, .int x0] : List Value).toArray 2) (by rw [hargs]) ?_
  have hl := lv_entry ([.ref h0, .int x0]) (n := 2) (Nat.le_of_ble_eq_true rfl)
  rw [lg_entry_eq]
  generalize (lg_sl ([.ref h0, .int x0]) ++ List.replicate (2 - (lg_sl ([.ref h0, .int x0])).length) Slot.unset).toArray = ls at hl ⊢
  have hl : lv_has ls 2 [(0, .ref h0), (1, .int x0)] := hl
  generalize ([] : List Loc) = locs at hS ⊢
  refine lv_iload_n hx hb dX5_water_0 rfl (lv_at hl 1 rfl) ?_
  refine lv_iconst (v := nI 0) hx hb dX5_water_1 (by decide) ?_
  refine lv_iconst (v := nI 3) hx hb dX5_water_2 (by decide) ?_
  exact xo_v (wc := []) hnt hlocks hP hD hS hA [] rfl rfl (vx_runS (As := [.int x0, .int (nI 0), .int (nI 3)]) (rest := []) ⟨hx, hb, hml, hown, hts⟩ (x_X5_requireRange_bad l hlst D cI cJ cZ x0 0 3 (by first | assumption | omega) (by first | assumption | omega) (by first | assumption | omega) H.size) (va_cwS 3 hts gX5_water_X5_requireRange rfl rfl rfl (by decide +kernel) ⟨Nat.le_of_ble_eq_true rfl, Nat.le_of_ble_eq_true rfl⟩) (pxS (wc := []) hT hP hD hA [] rfl rfl hST hSQ hS) rfl rfl hl.1 rfl (lv_room (Nat.le_of_ble_eq_true rfl)) dX5_water_3 ⟨Nat.le_of_ble_eq_true rfl, Nat.le_of_ble_eq_true rfl⟩)
