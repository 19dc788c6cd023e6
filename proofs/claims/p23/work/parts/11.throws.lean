/-! ===== refusals: what a throw needs of the world, the throw, and its way out ===== -/
def EI9 : String := "java/lang/IndexOutOfBoundsException"
def EA9 : String := "java/lang/IllegalArgumentException"
def ES9 : String := "java/lang/IllegalStateException"
def SQ (A : Nat → Prop) (U : State) (H : Heap) : Prop := vx_Zq Bundle.tN "UNASSIGNED_STACK" Bundle.steD A U H ∧ vx_Zq Bundle.tN "SUPPRESSED_SENTINEL" Bundle.listD A U H
theorem SQ.moved {A : Nat → Prop} {u U : State} {H : Heap} (hvm : u.vm.Alike U.vm) (h : SQ A u H) : SQ A U H := ⟨vx_Zq.moved hvm h.1, vx_Zq.moved hvm h.2⟩
theorem SQ.kept {A : Nat → Prop} {U : State} {H H1 : Heap} (h : SQ A U H) (hq : ∀ a : Nat, a < H.size → ¬ A a → H1[a]? = H[a]?) : SQ A U H1 := ⟨h.1.kept hq, h.2.kept hq⟩
theorem SQ.narrow {A B : Nat → Prop} {U : State} {H : Heap} (h : SQ A U H) (hAB : ∀ q, B q → A q) : SQ B U H := ⟨h.1.narrow hAB, h.2.narrow hAB⟩
def ST (U : State) : Prop := ((∃ a, vk_R RX5 200 "there is no such kilometre" a U) ∧ (∃ a, vk_R RX5 203 "there is no such layer" a U) ∧ (∃ a, vk_R RX5 205 "there is no such gauge" a U) ∧ (∃ a, vk_R RX5 209 "an argument is out of its range" a U) ∧ (∃ a, vk_R RX5 92 "drops have been put into the air 100 times" a U) ∧ (∃ a, vk_R RX5 130 "the minute would be above 600" a U) ∧ (∃ a, vk_R RX5 136 "there are 30 scans" a U) ∧ (∃ a, vk_R RX5 176 "there are not two scans" a U)) ∧ ((va_Nw (.castable "java/lang/IndexOutOfBoundsException" "java/lang/IndexOutOfBoundsException") U ∧ va_Nw (.castable "java/lang/IllegalArgumentException" "java/lang/IllegalArgumentException") U ∧ va_Nw (.castable "java/lang/IllegalStateException" "java/lang/IllegalStateException") U) ∧ va_Nc "java/lang/IllegalArgumentException" "java/lang/IndexOutOfBoundsException" U ∧ va_Nc "java/lang/IllegalStateException" "java/lang/IndexOutOfBoundsException" U ∧ va_Nc "java/lang/IllegalStateException" "java/lang/IllegalArgumentException" U) ∧ va_Nw (.declares (Bundle.initS "java/lang/RuntimeException")) U ∧ va_Nw (.declares (Bundle.initS "java/lang/Exception")) U ∧ va_Nw (.declares (Bundle.initS "java/lang/Throwable")) U
theorem vkx_warm {own tx : String} {k : Nat} {s U : State} (hW : s.WarmedH U.vm) (h : ∃ a, vk_R own k tx a s) : ∃ a, vk_R own k tx a U := h.elim fun a q => ⟨a, vk_R.warm hW q⟩
theorem vkx_same {own tx : String} {k : Nat} {u U : State} (hv : U.vm = u.vm) (h : ∃ a, vk_R own k tx a u) : ∃ a, vk_R own k tx a U := h.elim fun a q => ⟨a, vk_R.same hv q⟩
theorem ST.warm {s U : State} (hW : s.WarmedH U.vm) (h : ST s) : ST U := by
  obtain ⟨⟨a1, a2, a3, a4, a5, a6, a7, a8⟩, ⟨⟨b1, b2, b3⟩, c1, c2, c3⟩, d1, d2, d3⟩ := h
  exact ⟨⟨vkx_warm hW a1, vkx_warm hW a2, vkx_warm hW a3, vkx_warm hW a4, vkx_warm hW a5, vkx_warm hW a6, vkx_warm hW a7, vkx_warm hW a8⟩, ⟨⟨va_Nw.warmC hW b1, va_Nw.warmC hW b2, va_Nw.warmC hW b3⟩, va_Nc.moved hW.alike c1, va_Nc.moved hW.alike c2, va_Nc.moved hW.alike c3⟩, va_Nw.warmD hW d1, va_Nw.warmD hW d2, va_Nw.warmD hW d3⟩
theorem ST.blind {U : State} (h : ST U) (g : JFrame) (mk : MethodId) (a : Array Value) : ST (U.calling g mk a) := by
  obtain ⟨⟨a1, a2, a3, a4, a5, a6, a7, a8⟩, ⟨⟨b1, b2, b3⟩, c1, c2, c3⟩, d1, d2, d3⟩ := h
  have e : (U.calling g mk a).vm = U.vm := rfl
  have hvm : U.vm.Alike (U.calling g mk a).vm := Vm.Alike.refl U.vm
  exact ⟨⟨vkx_same e a1, vkx_same e a2, vkx_same e a3, vkx_same e a4, vkx_same e a5, vkx_same e a6, vkx_same e a7, vkx_same e a8⟩, ⟨⟨va_Nw.same rfl e.symm b1, va_Nw.same rfl e.symm b2, va_Nw.same rfl e.symm b3⟩, va_Nc.moved hvm c1, va_Nc.moved hvm c2, va_Nc.moved hvm c3⟩, va_Nw.same rfl e.symm d1, va_Nw.same rfl e.symm d2, va_Nw.same rfl e.symm d3⟩
def xPre (D : va_G) (cI cJ cZ : ClassId) (ws : va_W) (sz : Nat) (U : State) : Prop := mPre D cI cJ cZ ws sz U ∧ ST U ∧ SQ (va_A ws sz) U U.heap
theorem xPre.blind {D : va_G} {cI cJ cZ : ClassId} {ws : va_W} {sz : Nat} {av : List Value} : FrameBlind (va_Pc av (xPre D cI cJ cZ ws sz)) := fun a U g mk h => ⟨h.1, (mPre.blind a U g mk ⟨h.1, h.2.1⟩).2, h.2.2.1.blind g mk a, SQ.moved (u := U) (U := U.calling g mk a) (Vm.Alike.refl U.vm) h.2.2.2⟩
abbrev XQv : Array Value → State → Outcome → State → Prop := va_Qv (fun (_ : Unit) => False) (fun _ _ => True) (fun _ => False)
abbrev XQi : Array Value → State → Outcome → State → Prop := va_Qi (fun (_ : Int32) (_ : Unit) => False) (fun _ _ => True) (fun _ => False)
abbrev XQl : Array Value → State → Outcome → State → Prop := va_Ql (fun (_ : Int64) (_ : Unit) => False) (fun _ _ => True) (fun _ => False)
abbrev XC9 (z : Nat) (D : va_G) (A : Nat → Prop) (ws : va_W) (E : String) : String → State → State → Prop := vx_X (fun (_ : Unit) => True) (fun E' _ t => E' = E ∧ va_P D vwCl ws t.heap ∧ va_D A ws ∧ z < t.heap.size) A
section MYTHROWS
variable {p : Program} {l : Launch} {e : Env} {R : Room} {s : State} {m : MethodId} {args : Array Value} {below : List Frame} {meth : Method} {c : Code} {H : Heap} {locs : List Loc} {Q : State → Prop} {pc : Nat} {ls : Array Slot} {rest st0 : List Value} {cc : ByteArray}
variable {D : va_G} {cI cJ cZ : ClassId} {A : Nat → Prop} {ws wc : va_W} {a : Array Value} {Qc : Array Value → State → Outcome → State → Prop}
theorem pxS {As : List Value} (hT : TB D cI cJ cZ s) (hP : va_P D vwCl ws H) (hD : va_D A ws) (hA : ∀ q, s.heap.size ≤ q → A q) (isC : List Nat) (hC : isC.map (fun i => ws[i]?) = wc.map some) (hn : va_nd isC = true) (hST : ST s) (hSQ : SQ A s s.heap) (hS : va_S A s.heap H locs) : PreS s H (va_Pc As (xPre D cI cJ cZ wc H.size)) As :=
  ⟨xPre.blind, fun U hU hW => ⟨rfl, ((pvS hT hP hD isC hC hn (As := As)).2 U hU hW).2, hST.warm hW, by rw [hU]; exact (SQ.moved hW.alike (hSQ.kept hS.2.1)).narrow (va_free hD hS hA isC hC)⟩⟩
theorem pxV {b ci : Nat} {C : String} {Tt : u_T} {N : Nat} {fs : List Value} {As : List Value} (hT : TB D cI cJ cZ s) (hP : va_P D vwCl ws H) (hD : va_D A ws) (hA : ∀ q, s.heap.size ≤ q → A q) (isC : List Nat) (hC : isC.map (fun i => ws[i]?) = wc.map some) (hn : va_nd isC = true) (q0 : Nat) (he : wc[q0]? = some (b, .inr (ci, fs))) (hc : vwCl[ci]? = some (C, Tt, N)) (hST : ST s) (hSQ : SQ A s s.heap) (hS : va_S A s.heap H locs) : PreV s H C b (va_Pc (.ref b :: As) (xPre D cI cJ cZ wc H.size)) As :=
  ⟨xPre.blind, (pvV hT hP hD isC hC hn q0 he hc (As := As)).2.1, fun U hU hW => ⟨rfl, ((pvS hT hP hD isC hC hn (As := .ref b :: As)).2 U hU hW).2, hST.warm hW, by rw [hU]; exact (SQ.moved hW.alike (hSQ.kept hS.2.1)).narrow (va_free hD hS hA isC hC)⟩⟩
theorem xo_v {E : String} (hnt : ∀ x ∈ c.exceptionTable.toList, False) (hlocks : meth.locks = false) (hP : va_P D vwCl ws H) (hD : va_D A ws) (hS : va_S A s.heap H locs) (hA : ∀ q, s.heap.size ≤ q → A q) (isC : List Nat) (hC : isC.map (fun i => ws[i]?) = wc.map some) (h2 : pl9 isC wc ws = ws)
    (hr : vx_Run p l e R s m args below meth c H locs 0 0 1 6 (F0 m pc ls st0) rest (XQv a) (XC9 H.size D (va_A wc H.size) wc E) (va_A wc H.size)) : W p l e R s m args below meth c H locs 0 0 (vx_MQ below Qc (XC9 s.heap.size D A ws E) args s 1 6 A) (F0 m pc ls st0) := by
  have hF := va_free hD hS hA isC hC
  refine vx_callv hr hS (fun q _ h => h.elim) hF (fun q _ h => hF q h) (fun E' ce q9 u t H1 locs1 ht hvm _ hB hz hk hS1 hce hcv hcl => ?_) (fun u t H1 locs1 _ _ hp _ _ _ _ => hp.elim)
  rw [ht] at hB
  obtain ⟨g1, g2⟩ := jn9 hP hD isC hC rfl h2 hk hB.2.1
  exact vx_out (fun x hx => (hnt x hx).elim) hlocks hce hcv hcl (fun t ht hvm => ⟨(), trivial, ⟨hB.1, by rw [ht]; exact g1, g2, by rw [ht]; exact Nat.lt_of_le_of_lt hS.1 hB.2.2.2⟩, hS1.F ht⟩) hS1.2.2 (Nat.le_refl _) (Nat.le_refl _)
theorem thr9 {own cls text : String} {ik is ic sa : Nat} (hexec : p.tables.exec = Jvm.exec) (hb : c.code = cc) (hlst : l.stackTraces = false) (hown : s.vm.findClass own = some m.cls) (hcls : Bundle.fit cls = true)
    (hk : (Cond.classLink own ik cls).before args s = true) (hini : (Cond.initialized cls).before args s = true) (hstr : vk_R own is text sa s) (hg1 : ∀ w ∈ (vx_atS own ic cls ["java/lang/RuntimeException", "java/lang/Exception"]).filter goodWord, w.before args s = true)
    (hng : ∀ w ∈ (vx_atS own ic cls ["java/lang/RuntimeException", "java/lang/Exception"]).filter (fun w => !goodWord w), w ∈ [Cond.castable cls cls, .declares (Bundle.initS "java/lang/RuntimeException"), .declares (Bundle.initS "java/lang/Exception"), .declares (Bundle.initS "java/lang/Throwable")]) (hca : va_Nw (.castable cls cls) s) (hde : va_Nw (.declares (Bundle.initS "java/lang/RuntimeException")) s ∧ va_Nw (.declares (Bundle.initS "java/lang/Exception")) s ∧ va_Nw (.declares (Bundle.initS "java/lang/Throwable")) s)
    (hgood : ∀ w ∈ Cond.classLink own ik cls :: Cond.initialized cls :: vx_atS own ic cls ["java/lang/RuntimeException", "java/lang/Exception"], vx_ot w = true)
    (hSQ : SQ A s s.heap) (hP : va_P D vwCl ws H) (hD : va_D A ws) (hS : va_S A s.heap H locs) (hsize : ls.size = c.maxLocals)
    (d0 : decode cc pc = .ok (.new ik, 3)) (d3 : decode cc (pc + 3) = .ok (.dup, 1)) (d4 : decode cc (pc + 4) = .ok (.ldc is, 2)) (d6 : decode cc (pc + 6) = .ok (.invokespecial ic, 3)) (d9 : decode cc (pc + 9) = .ok (.athrow, 1))
    (hnt : ∀ x ∈ c.exceptionTable.toList, False) (hRf : 5 < R.frames) (hRl : 82 ≤ R.locals) (hRc : 1 ≤ R.cells) (hRs : 6 ≤ R.slots) (hlocks : meth.locks = false) :
    W p l e R s m args below meth c H locs 0 0 (vx_MQ below Qc (XC9 s.heap.size D A ws cls) args s 1 6 A) (F0 m pc ls []) := by
  have hn : ∀ n ∈ ["java/lang/RuntimeException", "java/lang/Exception"], Bundle.fit n = true := by decide +kernel
  refine vx_throwG hexec hb hlst hown hcls hn hk hini hstr (vx_hat hg1 hng (fun w hw => ?_)) hgood hSQ.1 hSQ.2 hS hsize d0 d3 d4 d6 d9 (fun x hx => (hnt x hx).elim) hRf (by simpa using hRl) (by omega) (by omega) hlocks (fun t hvm hz hk => ⟨(), trivial, ⟨rfl, hP.kept (fun k q hk2 => hk q.1 (hP k q hk2).lt), hD, Nat.lt_of_le_of_lt hS.1 hz⟩, Nat.le_trans hS.1 (Nat.le_of_lt hz), fun q h1 h2 => (hk q (Nat.lt_of_lt_of_le h1 hS.1)).trans (hS.2.1 q h1 h2)⟩) hS.2.2 (by omega) (by omega)
  simp only [List.mem_cons, List.not_mem_nil, or_false] at hw
  rcases hw with rfl | rfl | rfl | rfl
  · exact va_Nw.use rfl hca
  · exact va_Nw.use rfl hde.1
  · exact va_Nw.use rfl hde.2.1
  · exact va_Nw.use rfl hde.2.2
end MYTHROWS
set_option maxHeartbeats 4000000 in
set_option maxRecDepth 100000 in
theorem x_X5_requireKilometre_bad (l : Launch) (hlst : l.stackTraces = false) (D : va_G) (cI cJ cZ : ClassId) (xx : Int32) (hbad : xx.toInt < 0 ∨ 20 ≤ xx.toInt) (sz : Nat) : vx_Met l yX5_requireKilometre wsX5_requireKilometre ({ frames := 6, cells := 1, slots := 6, locals := 82 } : Room) (va_Pc [.int xx] (xPre D cI cJ cZ [] sz)) XQv (XC9 sz D (va_A [] sz) [] "java/lang/IndexOutOfBoundsException") 1 6 (va_A [] sz) := by
  refine vx_ofW (cc := cX5_requireKilometre) (maxL := 1) (ret := none) (by decide) rfl ?_
  intro p e s m args below meth c s₁ B hml hnt hv
  obtain ⟨hargs, ⟨hsz, hP, hT, hD0⟩, hST, hSQ⟩ := hv
  have hx := B.exec
  have hb := B.bytes
  have hr := B.returns
  have hts := atoms_spec (ws := wsX5_requireKilometre) B.pre
  have hown : s.vm.findClass RX5 = some m.cls := findClass_of_methodNamed B.named
  have hlocks := B.notSynchronized
  subst hsz
  have hK := hT.1
  have hD := hD0.self (sz := s.heap.size)
  generalize hAe : va_A [] s.heap.size = A at hD hSQ ⊢
  have hA : ∀ q : Nat, s.heap.size ≤ q → A q := fun q h => by rw [← hAe]; exact Or.inr h
  obtain ⟨H, hHe⟩ : ∃ H : Heap, H = s.heap := ⟨_, rfl⟩
  have hS : va_S A s.heap H [] := by rw [hHe]; exact va_S.rf
  rw [← hHe] at hP
  suffices K0 : W p l e (headSpec wsX5_requireKilometre ({ frames := 6, cells := 1, slots := 6, locals := 82 } : Room)).room s m args below meth c H [] 0 0 (vx_MQ below XQv (XC9 s.heap.size D A [] "java/lang/IndexOutOfBoundsException") args s 1 6 A) (entryFrame m args 1) by rw [hHe] at K0; exact K0
  refine W.eq (g2 := entryFrame m ([.int xx] : List Value).toArray 1) (by rw [hargs]) ?_
  have hl := lv_entry ([.int xx]) (n := 1) (Nat.le_of_ble_eq_true rfl)
  rw [lg_entry_eq]
  generalize (lg_sl ([.int xx]) ++ List.replicate (1 - (lg_sl ([.int xx])).length) Slot.unset).toArray = ls at hl ⊢
  have hl : lv_has ls 1 [(0, .int xx)] := hl
  generalize ([] : List Loc) = locs at hS ⊢
  refine lv_iload_n hx hb dX5_requireKilometre_0 rfl (lv_at hl 0 rfl) ?_
  refine c0_lt (tgt := 10) hx hb dX5_requireKilometre_1 (by decide) rfl (fun c_1 => ?_) (fun c_1 => ?_)
  · obtain ⟨sa, hsa⟩ := hST.1.1
    exact thr9 (own := RX5) (cls := "java/lang/IndexOutOfBoundsException") (ik := 198) (is := 200) (ic := 202) hx hb hlst hown (by decide +kernel) (hts (.classLink RX5 198 "java/lang/IndexOutOfBoundsException") (by decide +kernel)) (hts (.initialized "java/lang/IndexOutOfBoundsException") (by decide +kernel)) hsa (fun w h => hts w (List.mem_cons_of_mem _ (List.mem_append_right _ h))) (by decide +kernel) hST.2.1.1.1 hST.2.2 (by decide +kernel) hSQ hP hD hS (hl.1.trans hml.symm) dX5_requireKilometre_10 dX5_requireKilometre_13 dX5_requireKilometre_14 dX5_requireKilometre_16 dX5_requireKilometre_19 hnt (Nat.le_of_ble_eq_true rfl) (Nat.le_of_ble_eq_true rfl) (Nat.le_of_ble_eq_true rfl) (Nat.le_of_ble_eq_true rfl) hlocks
  · refine lv_iload_n hx hb dX5_requireKilometre_4 rfl (lv_at hl 0 rfl) ?_
    refine lv_bipush (v := nI 20) hx hb dX5_requireKilometre_5 (by decide) ?_
    refine ci_lt (tgt := 20) hx hb dX5_requireKilometre_7 (by decide) rfl (nT (by omega)) (fun c_7 => by omega) (fun c_7 => ?_)
    obtain ⟨sa, hsa⟩ := hST.1.1
    exact thr9 (own := RX5) (cls := "java/lang/IndexOutOfBoundsException") (ik := 198) (is := 200) (ic := 202) hx hb hlst hown (by decide +kernel) (hts (.classLink RX5 198 "java/lang/IndexOutOfBoundsException") (by decide +kernel)) (hts (.initialized "java/lang/IndexOutOfBoundsException") (by decide +kernel)) hsa (fun w h => hts w (List.mem_cons_of_mem _ (List.mem_append_right _ h))) (by decide +kernel) hST.2.1.1.1 hST.2.2 (by decide +kernel) hSQ hP hD hS (hl.1.trans hml.symm) dX5_requireKilometre_10 dX5_requireKilometre_13 dX5_requireKilometre_14 dX5_requireKilometre_16 dX5_requireKilometre_19 hnt (Nat.le_of_ble_eq_true rfl) (Nat.le_of_ble_eq_true rfl) (Nat.le_of_ble_eq_true rfl) (Nat.le_of_ble_eq_true rfl) hlocks
set_option maxHeartbeats 4000000 in
set_option maxRecDepth 100000 in
theorem x_X5_requireGauge_bad (l : Launch) (hlst : l.stackTraces = false) (D : va_G) (cI cJ cZ : ClassId) (h0 : Nat) (ai : Nat) (pu : Nat) (pa : Nat) (ga : Nat) (sc : Nat) (hi : Nat) (gr : Nat) (me : Nat) (dp : Nat) (up : Bool) (mi : Nat) (ru : Nat) (wp : Int64) (wl : Int64) (g1 : Nat) (g2 : Nat) (g3 : Nat) (UP : Nat → Bool) (CL : Nat → Bool) (CO : Nat → Int64) (ki : Nat) (hki : ki < 20) (hup : UP ki = false) (sz : Nat) : vx_Met l yX5_requireGauge wsX5_requireGauge ({ frames := 6, cells := 1, slots := 6, locals := 82 } : Room) (va_Pc [.ref h0, .int (nI ki)] (xPre D cI cJ cZ [(h0, .inr (5, [.ref ai, .ref pu, .ref pa, .ref ga, .ref sc, .ref hi, .ref gr, .int (nI me), .int (nI dp), .int (bI up), .int (nI mi), .int (nI ru), .long wp, .long wl])), (ga, .inr (1, [.ref g1, .ref g2, .ref g3])), (g1, .inl (cZ, 20, .inl (bA UP))), (g2, .inl (cZ, 20, .inl (bA CL))), (g3, .inl (cJ, 20, .inr (.inl CO)))] sz)) XQv (XC9 sz D (va_A [(h0, .inr (5, [.ref ai, .ref pu, .ref pa, .ref ga, .ref sc, .ref hi, .ref gr, .int (nI me), .int (nI dp), .int (bI up), .int (nI mi), .int (nI ru), .long wp, .long wl])), (ga, .inr (1, [.ref g1, .ref g2, .ref g3])), (g1, .inl (cZ, 20, .inl (bA UP))), (g2, .inl (cZ, 20, .inl (bA CL))), (g3, .inl (cJ, 20, .inr (.inl CO)))] sz) [(h0, .inr (5, [.ref ai, .ref pu, .ref pa, .ref ga, .ref sc, .ref hi, .ref gr, .int (nI me), .int (nI dp), .int (bI up), .int (nI mi), .int (nI ru), .long wp, .long wl])), (ga, .inr (1, [.ref g1, .ref g2, .ref g3])), (g1, .inl (cZ, 20, .inl (bA UP))), (g2, .inl (cZ, 20, .inl (bA CL))), (g3, .inl (cJ, 20, .inr (.inl CO)))] "java/lang/IndexOutOfBoundsException") 1 6 (va_A [(h0, .inr (5, [.ref ai, .ref pu, .ref pa, .ref ga, .ref sc, .ref hi, .ref gr, .int (nI me), .int (nI dp), .int (bI up), .int (nI mi), .int (nI ru), .long wp, .long wl])), (ga, .inr (1, [.ref g1, .ref g2, .ref g3])), (g1, .inl (cZ, 20, .inl (bA UP))), (g2, .inl (cZ, 20, .inl (bA CL))), (g3, .inl (cJ, 20, .inr (.inl CO)))] sz) := by
  refine vx_ofW (cc := cX5_requireGauge) (maxL := 2) (ret := none) (by decide) rfl ?_
  intro p e s m args below meth c s₁ B hml hnt hv
  obtain ⟨hargs, ⟨hsz, hP, hT, hD0⟩, hST, hSQ⟩ := hv
  have hx := B.exec
  have hb := B.bytes
  have hr := B.returns
  have hts := atoms_spec (ws := wsX5_requireGauge) B.pre
  have hown : s.vm.findClass RX5 = some m.cls := findClass_of_methodNamed B.named
  have hlocks := B.notSynchronized
  subst hsz
  have hK := hT.1
  have hD := hD0.self (sz := s.heap.size)
  generalize hAe : va_A [(h0, .inr (5, [.ref ai, .ref pu, .ref pa, .ref ga, .ref sc, .ref hi, .ref gr, .int (nI me), .int (nI dp), .int (bI up), .int (nI mi), .int (nI ru), .long wp, .long wl])), (ga, .inr (1, [.ref g1, .ref g2, .ref g3])), (g1, .inl (cZ, 20, .inl (bA UP))), (g2, .inl (cZ, 20, .inl (bA CL))), (g3, .inl (cJ, 20, .inr (.inl CO)))] s.heap.size = A at hD hSQ ⊢
  have hA : ∀ q : Nat, s.heap.size ≤ q → A q := fun q h => by rw [← hAe]; exact Or.inr h
  obtain ⟨H, hHe⟩ : ∃ H : Heap, H = s.heap := ⟨_, rfl⟩
  have hS : va_S A s.heap H [] := by rw [hHe]; exact va_S.rf
  rw [← hHe] at hP
  suffices K0 : W p l e (headSpec wsX5_requireGauge ({ frames := 6, cells := 1, slots := 6, locals := 82 } : Room)).room s m args below meth c H [] 0 0 (vx_MQ below XQv (XC9 s.heap.size D A [(h0, .inr (5, [.ref ai, .ref pu, .ref pa, .ref ga, .ref sc, .ref hi, .ref gr, .int (nI me), .int (nI dp), .int (bI up), .int (nI mi), .int (nI ru), .long wp, .long wl])), (ga, .inr (1, [.ref g1, .ref g2, .ref g3])), (g1, .inl (cZ, 20, .inl (bA UP))), (g2, .inl (cZ, 20, .inl (bA CL))), (g3, .inl (cJ, 20, .inr (.inl CO)))] "java/lang/IndexOutOfBoundsException") args s 1 6 A) (entryFrame m args 2) by rw [hHe] at K0; exact K0
  refine W.eq (g2 := entryFrame m ([.ref h0, .int (nI ki)] : List Value).toArray 2) (by rw [hargs]) ?_
  have hl := lv_entry ([.ref h0, .int (nI ki)]) (n := 2) (Nat.le_of_ble_eq_true rfl)
  rw [lg_entry_eq]
  generalize (lg_sl ([.ref h0, .int (nI ki)]) ++ List.replicate (2 - (lg_sl ([.ref h0, .int (nI ki)])).length) Slot.unset).toArray = ls at hl ⊢
  have hl : lv_has ls 2 [(0, .ref h0), (1, .int (nI ki))] := hl
  generalize ([] : List Loc) = locs at hS ⊢
  have hinX5 : ∀ w ∈ wsX50, w ∈ wsX5_requireGauge := by decide +kernel
  have hf33 := hts (.fieldLink RX5 33 "Brightband" "gauges" "LBrightband$Gauges;") (by decide +kernel)
  refine lv_aload_n hx hb dX5_requireGauge_0 rfl (lv_at hl 0 rfl) ?_
  refine va_get (D := D) (ci := 5) (v := .ref ga) (C := RX5) (T := TX5) (N := 14) hx hb hts hinX5 hown hK hP 0 rfl rfl 3 (by decide) hf33 (fun _ h9 => h9) rfl dX5_requireGauge_1 ?_
  refine lv_iload_n hx hb dX5_requireGauge_4 rfl (lv_at hl 1 rfl) ?_
  refine cr_i (wc := [(ga, .inr (1, [.ref g1, .ref g2, .ref g3])), (g1, .inl (cZ, 20, .inl (bA UP))), (g2, .inl (cZ, 20, .inl (bA CL))), (g3, .inl (cJ, 20, .inr (.inl CO)))]) (w1 := [(ga, .inr (1, [.ref g1, .ref g2, .ref g3])), (g1, .inl (cZ, 20, .inl (bA UP))), (g2, .inl (cZ, 20, .inl (bA CL))), (g3, .inl (cJ, 20, .inr (.inl CO)))]) (ws2 := [(h0, .inr (5, [.ref ai, .ref pu, .ref pa, .ref ga, .ref sc, .ref hi, .ref gr, .int (nI me), .int (nI dp), .int (bI up), .int (nI mi), .int (nI ru), .long wp, .long wl])), (ga, .inr (1, [.ref g1, .ref g2, .ref g3])), (g1, .inl (cZ, 20, .inl (bA UP))), (g2, .inl (cZ, 20, .inl (bA CL))), (g3, .inl (cJ, 20, .inr (.inl CO)))]) hP hD hS hA [1, 2, 3, 4] rfl rfl rfl (va_runV (As := [.int (nI ki)]) (rest := []) ⟨hx, hb, hml, hown, hts⟩ (c_X1_isUp l D cI cJ cZ ga g1 g2 g3 UP CL CO ki (by omega) H.size) (cwV 1 hts gX5_requireGauge_X1_isUp rfl rfl rfl (by decide +kernel) ⟨Nat.le_of_ble_eq_true rfl, Nat.le_of_ble_eq_true rfl⟩) (pvV hT hP hD [1, 2, 3, 4] rfl rfl 0 rfl rfl) rfl rfl hl.1 rfl (lv_room (Nat.le_of_ble_eq_true rfl)) dX5_requireGauge_5 ⟨Nat.zero_le _, Nat.zero_le _⟩) (fun H locs hP hD hS => ?_)
  refine cb_ne (tgt := 21) hx hb dX5_requireGauge_8 (by decide) (fun c_8 => by rw [hup] at c_8; cases c_8) (fun c_8 => ?_)
  obtain ⟨sa, hsa⟩ := hST.1.2.2.1
  exact thr9 (own := RX5) (cls := "java/lang/IndexOutOfBoundsException") (ik := 198) (is := 205) (ic := 202) hx hb hlst hown (by decide +kernel) (hts (.classLink RX5 198 "java/lang/IndexOutOfBoundsException") (by decide +kernel)) (hts (.initialized "java/lang/IndexOutOfBoundsException") (by decide +kernel)) hsa (fun w h => hts w (List.mem_cons_of_mem _ (List.mem_append_right _ h))) (by decide +kernel) hST.2.1.1.1 hST.2.2 (by decide +kernel) hSQ hP hD hS (hl.1.trans hml.symm) dX5_requireGauge_11 dX5_requireGauge_14 dX5_requireGauge_15 dX5_requireGauge_17 dX5_requireGauge_20 hnt (Nat.le_of_ble_eq_true rfl) (Nat.le_of_ble_eq_true rfl) (Nat.le_of_ble_eq_true rfl) (Nat.le_of_ble_eq_true rfl) hlocks
set_option maxHeartbeats 4000000 in
set_option maxRecDepth 100000 in
theorem x_X5_drops_0 (l : Launch) (hlst : l.stackTraces = false) (D : va_G) (cI cJ cZ : ClassId) (h0 : Nat) (ai : Nat) (pu : Nat) (pa : Nat) (ga : Nat) (sc : Nat) (hi : Nat) (gr : Nat) (me : Nat) (dp : Nat) (up : Bool) (mi : Nat) (ru : Nat) (wp : Int64) (wl : Int64) (x0 : Int32) (x1 : Int32) (x2 : Int32) (x3 : Int32) (hbad : x0.toInt < 0 ∨ 20 ≤ x0.toInt) (sz : Nat) : vx_Met l yX5_drops wsX5_drops ({ frames := 7, cells := 1, slots := 6, locals := 102 } : Room) (va_Pc [.ref h0, .int x0, .int x1, .int x2, .int x3] (xPre D cI cJ cZ [(h0, .inr (5, [.ref ai, .ref pu, .ref pa, .ref ga, .ref sc, .ref hi, .ref gr, .int (nI me), .int (nI dp), .int (bI up), .int (nI mi), .int (nI ru), .long wp, .long wl]))] sz)) XQi (XC9 sz D (va_A [(h0, .inr (5, [.ref ai, .ref pu, .ref pa, .ref ga, .ref sc, .ref hi, .ref gr, .int (nI me), .int (nI dp), .int (bI up), .int (nI mi), .int (nI ru), .long wp, .long wl]))] sz) [(h0, .inr (5, [.ref ai, .ref pu, .ref pa, .ref ga, .ref sc, .ref hi, .ref gr, .int (nI me), .int (nI dp), .int (bI up), .int (nI mi), .int (nI ru), .long wp, .long wl]))] "java/lang/IndexOutOfBoundsException") 1 6 (va_A [(h0, .inr (5, [.ref ai, .ref pu, .ref pa, .ref ga, .ref sc, .ref hi, .ref gr, .int (nI me), .int (nI dp), .int (bI up), .int (nI mi), .int (nI ru), .long wp, .long wl]))] sz) := by
  refine vx_ofW (cc := cX5_drops) (maxL := 5) (ret := (some .int)) (by decide) rfl ?_
  intro p e s m args below meth c s₁ B hml hnt hv
  obtain ⟨hargs, ⟨hsz, hP, hT, hD0⟩, hST, hSQ⟩ := hv
  have hx := B.exec
  have hb := B.bytes
  have hr := B.returns
  have hts := atoms_spec (ws := wsX5_drops) B.pre
  have hown : s.vm.findClass RX5 = some m.cls := findClass_of_methodNamed B.named
  have hlocks := B.notSynchronized
  subst hsz
  have hK := hT.1
  have hD := hD0.self (sz := s.heap.size)
  generalize hAe : va_A [(h0, .inr (5, [.ref ai, .ref pu, .ref pa, .ref ga, .ref sc, .ref hi, .ref gr, .int (nI me), .int (nI dp), .int (bI up), .int (nI mi), .int (nI ru), .long wp, .long wl]))] s.heap.size = A at hD hSQ ⊢
  have hA : ∀ q : Nat, s.heap.size ≤ q → A q := fun q h => by rw [← hAe]; exact Or.inr h
  obtain ⟨H, hHe⟩ : ∃ H : Heap, H = s.heap := ⟨_, rfl⟩
  have hS : va_S A s.heap H [] := by rw [hHe]; exact va_S.rf
  rw [← hHe] at hP
  suffices K0 : W p l e (headSpec wsX5_drops ({ frames := 7, cells := 1, slots := 6, locals := 102 } : Room)).room s m args below meth c H [] 0 0 (vx_MQ below XQi (XC9 s.heap.size D A [(h0, .inr (5, [.ref ai, .ref pu, .ref pa, .ref ga, .ref sc, .ref hi, .ref gr, .int (nI me), .int (nI dp), .int (bI up), .int (nI mi), .int (nI ru), .long wp, .long wl]))] "java/lang/IndexOutOfBoundsException") args s 1 6 A) (entryFrame m args 5) by rw [hHe] at K0; exact K0
  refine W.eq (g2 := entryFrame m ([.ref h0, .int x0, .int x1, .int x2, .int x3] : List Value).toArray 5) (by rw [hargs]) ?_
  have hl := lv_entry ([.ref h0, .int x0, .int x1, .int x2, .int x3]) (n := 5) (Nat.le_of_ble_eq_true rfl)
  rw [lg_entry_eq]
  generalize (lg_sl ([.ref h0, .int x0, .int x1, .int x2, .int x3]) ++ List.replicate (5 - (lg_sl ([.ref h0, .int x0, .int x1, .int x2, .int x3])).length) Slot.unset).toArray = ls at hl ⊢
  have hl : lv_has ls 5 [(0, .ref h0), (1, .int x0), (2, .int x1), (3, .int x2), (4, .int x3)] := hl
  generalize ([] : List Loc) = locs at hS ⊢
  refine lv_iload_n hx hb dX5_drops_0 rfl (lv_at hl 1 rfl) ?_
  exact xo_v (wc := []) hnt hlocks hP hD hS hA [] rfl rfl (vx_runS (As := [.int x0]) (rest := []) ⟨hx, hb, hml, hown, hts⟩ (x_X5_requireKilometre_bad l hlst D cI cJ cZ x0 (by first | assumption | omega) H.size) (va_cwS 1 hts gX5_drops_X5_requireKilometre rfl rfl rfl (by decide +kernel) ⟨Nat.le_of_ble_eq_true rfl, Nat.le_of_ble_eq_true rfl⟩) (pxS (wc := []) hT hP hD hA [] rfl rfl hST hSQ hS) rfl rfl hl.1 rfl (lv_room (Nat.le_of_ble_eq_true rfl)) dX5_drops_1 ⟨Nat.le_of_ble_eq_true rfl, Nat.le_of_ble_eq_true rfl⟩)
set_option maxHeartbeats 4000000 in
set_option maxRecDepth 100000 in
theorem x_X5_motion_0 (l : Launch) (hlst : l.stackTraces = false) (D : va_G) (cI cJ cZ : ClassId) (h0 : Nat) (ai : Nat) (pu : Nat) (pa : Nat) (ga : Nat) (sc : Nat) (hi : Nat) (gr : Nat) (me : Nat) (dp : Nat) (up : Bool) (mi : Nat) (ru : Nat) (wp : Int64) (wl : Int64) (s1 : Nat) (s2 : Nat) (EC : Nat → Int64) (RU : Nat → Nat) (sm : Nat) (hsm : sm < 2) (sz : Nat) : vx_Met l yX5_motion wsX5_motion ({ frames := 6, cells := 1, slots := 6, locals := 82 } : Room) (va_Pc [.ref h0] (xPre D cI cJ cZ [(h0, .inr (5, [.ref ai, .ref pu, .ref pa, .ref ga, .ref sc, .ref hi, .ref gr, .int (nI me), .int (nI dp), .int (bI up), .int (nI mi), .int (nI ru), .long wp, .long wl])), (sc, .inr (4, [.ref s1, .ref s2, .int (nI sm)])), (s1, .inl (cJ, 600, .inr (.inl EC))), (s2, .inl (cI, 30, .inl (nA RU)))] sz)) XQi (XC9 sz D (va_A [(h0, .inr (5, [.ref ai, .ref pu, .ref pa, .ref ga, .ref sc, .ref hi, .ref gr, .int (nI me), .int (nI dp), .int (bI up), .int (nI mi), .int (nI ru), .long wp, .long wl])), (sc, .inr (4, [.ref s1, .ref s2, .int (nI sm)])), (s1, .inl (cJ, 600, .inr (.inl EC))), (s2, .inl (cI, 30, .inl (nA RU)))] sz) [(h0, .inr (5, [.ref ai, .ref pu, .ref pa, .ref ga, .ref sc, .ref hi, .ref gr, .int (nI me), .int (nI dp), .int (bI up), .int (nI mi), .int (nI ru), .long wp, .long wl])), (sc, .inr (4, [.ref s1, .ref s2, .int (nI sm)])), (s1, .inl (cJ, 600, .inr (.inl EC))), (s2, .inl (cI, 30, .inl (nA RU)))] "java/lang/IllegalStateException") 1 6 (va_A [(h0, .inr (5, [.ref ai, .ref pu, .ref pa, .ref ga, .ref sc, .ref hi, .ref gr, .int (nI me), .int (nI dp), .int (bI up), .int (nI mi), .int (nI ru), .long wp, .long wl])), (sc, .inr (4, [.ref s1, .ref s2, .int (nI sm)])), (s1, .inl (cJ, 600, .inr (.inl EC))), (s2, .inl (cI, 30, .inl (nA RU)))] sz) := by
  refine vx_ofW (cc := cX5_motion) (maxL := 9) (ret := (some .int)) (by decide) rfl ?_
  intro p e s m args below meth c s₁ B hml hnt hv
  obtain ⟨hargs, ⟨hsz, hP, hT, hD0⟩, hST, hSQ⟩ := hv
  have hx := B.exec
  have hb := B.bytes
  have hr := B.returns
  have hts := atoms_spec (ws := wsX5_motion) B.pre
  have hown : s.vm.findClass RX5 = some m.cls := findClass_of_methodNamed B.named
  have hlocks := B.notSynchronized
  subst hsz
  have hK := hT.1
  have hD := hD0.self (sz := s.heap.size)
  generalize hAe : va_A [(h0, .inr (5, [.ref ai, .ref pu, .ref pa, .ref ga, .ref sc, .ref hi, .ref gr, .int (nI me), .int (nI dp), .int (bI up), .int (nI mi), .int (nI ru), .long wp, .long wl])), (sc, .inr (4, [.ref s1, .ref s2, .int (nI sm)])), (s1, .inl (cJ, 600, .inr (.inl EC))), (s2, .inl (cI, 30, .inl (nA RU)))] s.heap.size = A at hD hSQ ⊢
  have hA : ∀ q : Nat, s.heap.size ≤ q → A q := fun q h => by rw [← hAe]; exact Or.inr h
  obtain ⟨H, hHe⟩ : ∃ H : Heap, H = s.heap := ⟨_, rfl⟩
  have hS : va_S A s.heap H [] := by rw [hHe]; exact va_S.rf
  rw [← hHe] at hP
  suffices K0 : W p l e (headSpec wsX5_motion ({ frames := 6, cells := 1, slots := 6, locals := 82 } : Room)).room s m args below meth c H [] 0 0 (vx_MQ below XQi (XC9 s.heap.size D A [(h0, .inr (5, [.ref ai, .ref pu, .ref pa, .ref ga, .ref sc, .ref hi, .ref gr, .int (nI me), .int (nI dp), .int (bI up), .int (nI mi), .int (nI ru), .long wp, .long wl])), (sc, .inr (4, [.ref s1, .ref s2, .int (nI sm)])), (s1, .inl (cJ, 600, .inr (.inl EC))), (s2, .inl (cI, 30, .inl (nA RU)))] "java/lang/IllegalStateException") args s 1 6 A) (entryFrame m args 9) by rw [hHe] at K0; exact K0
  refine W.eq (g2 := entryFrame m ([.ref h0] : List Value).toArray 9) (by rw [hargs]) ?_
  have hl := lv_entry ([.ref h0]) (n := 9) (Nat.le_of_ble_eq_true rfl)
  rw [lg_entry_eq]
  generalize (lg_sl ([.ref h0]) ++ List.replicate (9 - (lg_sl ([.ref h0])).length) Slot.unset).toArray = ls at hl ⊢
  have hl : lv_has ls 9 [(0, .ref h0)] := hl
  generalize ([] : List Loc) = locs at hS ⊢
  have hinX5 : ∀ w ∈ wsX50, w ∈ wsX5_motion := by decide +kernel
  have hf40 := hts (.fieldLink RX5 40 "Brightband" "scans" "LBrightband$Scans;") (by decide +kernel)
  have hinX4 : ∀ w ∈ wsX40, w ∈ wsX5_motion := by decide +kernel
  refine lv_aload_n hx hb dX5_motion_0 rfl (lv_at hl 0 rfl) ?_
  refine va_get (D := D) (ci := 5) (v := .ref sc) (C := RX5) (T := TX5) (N := 14) hx hb hts hinX5 hown hK hP 0 rfl rfl 4 (by decide) hf40 (fun _ h9 => h9) rfl dX5_motion_1 ?_
  refine va_getN (D := D) (ci := 4) (v := .int (nI sm)) (C := RX4) (T := TX4) (N := 3) hx hb hts hinX4 hown hK hP 1 rfl rfl 2 (by decide) (va_Nw.use rfl hT.2.2.2.2.2.2.2.2.2.1) (fun _ h9 => h9) rfl dX5_motion_4 ?_
  refine lv_iconst (v := nI 2) hx hb dX5_motion_7 (by decide) ?_
  refine ci_ge (tgt := 21) hx hb dX5_motion_8 (by decide) (nT (by omega)) (nT (by omega)) (fun c_8 => by omega) (fun c_8 => ?_)
  obtain ⟨sa, hsa⟩ := hST.1.2.2.2.2.2.2.2
  exact thr9 (own := RX5) (cls := "java/lang/IllegalStateException") (ik := 90) (is := 176) (ic := 94) hx hb hlst hown (by decide +kernel) (hts (.classLink RX5 90 "java/lang/IllegalStateException") (by decide +kernel)) (hts (.initialized "java/lang/IllegalStateException") (by decide +kernel)) hsa (fun w h => hts w (List.mem_cons_of_mem _ (List.mem_append_right _ h))) (by decide +kernel) hST.2.1.1.2.2 hST.2.2 (by decide +kernel) hSQ hP hD hS (hl.1.trans hml.symm) dX5_motion_11 dX5_motion_14 dX5_motion_15 dX5_motion_17 dX5_motion_20 hnt (Nat.le_of_ble_eq_true rfl) (Nat.le_of_ble_eq_true rfl) (Nat.le_of_ble_eq_true rfl) (Nat.le_of_ble_eq_true rfl) hlocks
set_option maxHeartbeats 4000000 in
set_option maxRecDepth 100000 in
theorem x_X5_collected_1 (l : Launch) (hlst : l.stackTraces = false) (D : va_G) (cI cJ cZ : ClassId) (h0 : Nat) (ai : Nat) (pu : Nat) (pa : Nat) (ga : Nat) (sc : Nat) (hi : Nat) (gr : Nat) (me : Nat) (dp : Nat) (up : Bool) (mi : Nat) (ru : Nat) (wp : Int64) (wl : Int64) (g1 : Nat) (g2 : Nat) (g3 : Nat) (UP : Nat → Bool) (CL : Nat → Bool) (CO : Nat → Int64) (ki : Nat) (hki : ki < 20) (hup : UP ki = false) (sz : Nat) : vx_Met l yX5_collected wsX5_collected ({ frames := 7, cells := 1, slots := 6, locals := 103 } : Room) (va_Pc [.ref h0, .int (nI ki)] (xPre D cI cJ cZ [(h0, .inr (5, [.ref ai, .ref pu, .ref pa, .ref ga, .ref sc, .ref hi, .ref gr, .int (nI me), .int (nI dp), .int (bI up), .int (nI mi), .int (nI ru), .long wp, .long wl])), (ga, .inr (1, [.ref g1, .ref g2, .ref g3])), (g1, .inl (cZ, 20, .inl (bA UP))), (g2, .inl (cZ, 20, .inl (bA CL))), (g3, .inl (cJ, 20, .inr (.inl CO)))] sz)) XQl (XC9 sz D (va_A [(h0, .inr (5, [.ref ai, .ref pu, .ref pa, .ref ga, .ref sc, .ref hi, .ref gr, .int (nI me), .int (nI dp), .int (bI up), .int (nI mi), .int (nI ru), .long wp, .long wl])), (ga, .inr (1, [.ref g1, .ref g2, .ref g3])), (g1, .inl (cZ, 20, .inl (bA UP))), (g2, .inl (cZ, 20, .inl (bA CL))), (g3, .inl (cJ, 20, .inr (.inl CO)))] sz) [(h0, .inr (5, [.ref ai, .ref pu, .ref pa, .ref ga, .ref sc, .ref hi, .ref gr, .int (nI me), .int (nI dp), .int (bI up), .int (nI mi), .int (nI ru), .long wp, .long wl])), (ga, .inr (1, [.ref g1, .ref g2, .ref g3])), (g1, .inl (cZ, 20, .inl (bA UP))), (g2, .inl (cZ, 20, .inl (bA CL))), (g3, .inl (cJ, 20, .inr (.inl CO)))] "java/lang/IndexOutOfBoundsException") 1 6 (va_A [(h0, .inr (5, [.ref ai, .ref pu, .ref pa, .ref ga, .ref sc, .ref hi, .ref gr, .int (nI me), .int (nI dp), .int (bI up), .int (nI mi), .int (nI ru), .long wp, .long wl])), (ga, .inr (1, [.ref g1, .ref g2, .ref g3])), (g1, .inl (cZ, 20, .inl (bA UP))), (g2, .inl (cZ, 20, .inl (bA CL))), (g3, .inl (cJ, 20, .inr (.inl CO)))] sz) := by
  refine vx_ofW (cc := cX5_collected) (maxL := 2) (ret := (some .long)) (by decide) rfl ?_
  intro p e s m args below meth c s₁ B hml hnt hv
  obtain ⟨hargs, ⟨hsz, hP, hT, hD0⟩, hST, hSQ⟩ := hv
  have hx := B.exec
  have hb := B.bytes
  have hr := B.returns
  have hts := atoms_spec (ws := wsX5_collected) B.pre
  have hown : s.vm.findClass RX5 = some m.cls := findClass_of_methodNamed B.named
  have hlocks := B.notSynchronized
  subst hsz
  have hK := hT.1
  have hD := hD0.self (sz := s.heap.size)
  generalize hAe : va_A [(h0, .inr (5, [.ref ai, .ref pu, .ref pa, .ref ga, .ref sc, .ref hi, .ref gr, .int (nI me), .int (nI dp), .int (bI up), .int (nI mi), .int (nI ru), .long wp, .long wl])), (ga, .inr (1, [.ref g1, .ref g2, .ref g3])), (g1, .inl (cZ, 20, .inl (bA UP))), (g2, .inl (cZ, 20, .inl (bA CL))), (g3, .inl (cJ, 20, .inr (.inl CO)))] s.heap.size = A at hD hSQ ⊢
  have hA : ∀ q : Nat, s.heap.size ≤ q → A q := fun q h => by rw [← hAe]; exact Or.inr h
  obtain ⟨H, hHe⟩ : ∃ H : Heap, H = s.heap := ⟨_, rfl⟩
  have hS : va_S A s.heap H [] := by rw [hHe]; exact va_S.rf
  rw [← hHe] at hP
  suffices K0 : W p l e (headSpec wsX5_collected ({ frames := 7, cells := 1, slots := 6, locals := 103 } : Room)).room s m args below meth c H [] 0 0 (vx_MQ below XQl (XC9 s.heap.size D A [(h0, .inr (5, [.ref ai, .ref pu, .ref pa, .ref ga, .ref sc, .ref hi, .ref gr, .int (nI me), .int (nI dp), .int (bI up), .int (nI mi), .int (nI ru), .long wp, .long wl])), (ga, .inr (1, [.ref g1, .ref g2, .ref g3])), (g1, .inl (cZ, 20, .inl (bA UP))), (g2, .inl (cZ, 20, .inl (bA CL))), (g3, .inl (cJ, 20, .inr (.inl CO)))] "java/lang/IndexOutOfBoundsException") args s 1 6 A) (entryFrame m args 2) by rw [hHe] at K0; exact K0
  refine W.eq (g2 := entryFrame m ([.ref h0, .int (nI ki)] : List Value).toArray 2) (by rw [hargs]) ?_
  have hl := lv_entry ([.ref h0, .int (nI ki)]) (n := 2) (Nat.le_of_ble_eq_true rfl)
  rw [lg_entry_eq]
  generalize (lg_sl ([.ref h0, .int (nI ki)]) ++ List.replicate (2 - (lg_sl ([.ref h0, .int (nI ki)])).length) Slot.unset).toArray = ls at hl ⊢
  have hl : lv_has ls 2 [(0, .ref h0), (1, .int (nI ki))] := hl
  generalize ([] : List Loc) = locs at hS ⊢
  refine lv_iload_n hx hb dX5_collected_0 rfl (lv_at hl 1 rfl) ?_
  refine cr_v (wc := []) (w1 := []) (ws2 := [(h0, .inr (5, [.ref ai, .ref pu, .ref pa, .ref ga, .ref sc, .ref hi, .ref gr, .int (nI me), .int (nI dp), .int (bI up), .int (nI mi), .int (nI ru), .long wp, .long wl])), (ga, .inr (1, [.ref g1, .ref g2, .ref g3])), (g1, .inl (cZ, 20, .inl (bA UP))), (g2, .inl (cZ, 20, .inl (bA CL))), (g3, .inl (cJ, 20, .inr (.inl CO)))]) hP hD hS hA [] rfl rfl rfl (va_runS (As := [.int (nI ki)]) (rest := []) ⟨hx, hb, hml, hown, hts⟩ (c_X5_requireKilometre l D cI cJ cZ ki (by omega) H.size) (va_cwS 1 hts gX5_collected_X5_requireKilometre rfl rfl rfl (by decide +kernel) ⟨Nat.le_of_ble_eq_true rfl, Nat.le_of_ble_eq_true rfl⟩) (pvS hT hP hD [] rfl rfl) rfl rfl hl.1 rfl (lv_room (Nat.le_of_ble_eq_true rfl)) dX5_collected_1 ⟨Nat.zero_le _, Nat.zero_le _⟩) (fun H locs hP hD hS => ?_)
  refine lv_aload_n hx hb dX5_collected_4 rfl (lv_at hl 0 rfl) ?_
  refine lv_iload_n hx hb dX5_collected_5 rfl (lv_at hl 1 rfl) ?_
  exact xo_v (wc := [(h0, .inr (5, [.ref ai, .ref pu, .ref pa, .ref ga, .ref sc, .ref hi, .ref gr, .int (nI me), .int (nI dp), .int (bI up), .int (nI mi), .int (nI ru), .long wp, .long wl])), (ga, .inr (1, [.ref g1, .ref g2, .ref g3])), (g1, .inl (cZ, 20, .inl (bA UP))), (g2, .inl (cZ, 20, .inl (bA CL))), (g3, .inl (cJ, 20, .inr (.inl CO)))]) hnt hlocks hP hD hS hA [0, 1, 2, 3, 4] rfl rfl (vx_runV (As := [.int (nI ki)]) (rest := []) ⟨hx, hb, hml, hown, hts⟩ (x_X5_requireGauge_bad l hlst D cI cJ cZ h0 ai pu pa ga sc hi gr me dp up mi ru wp wl g1 g2 g3 UP CL CO ki hki hup H.size) (cwV 1 hts gX5_collected_X5_requireGauge rfl rfl rfl (by decide +kernel) ⟨Nat.le_of_ble_eq_true rfl, Nat.le_of_ble_eq_true rfl⟩) (pxV (wc := [(h0, .inr (5, [.ref ai, .ref pu, .ref pa, .ref ga, .ref sc, .ref hi, .ref gr, .int (nI me), .int (nI dp), .int (bI up), .int (nI mi), .int (nI ru), .long wp, .long wl])), (ga, .inr (1, [.ref g1, .ref g2, .ref g3])), (g1, .inl (cZ, 20, .inl (bA UP))), (g2, .inl (cZ, 20, .inl (bA CL))), (g3, .inl (cJ, 20, .inr (.inl CO)))]) hT hP hD hA [0, 1, 2, 3, 4] rfl rfl 0 rfl rfl hST hSQ hS) rfl rfl hl.1 rfl (lv_room (Nat.le_of_ble_eq_true rfl)) dX5_collected_6 ⟨Nat.le_of_ble_eq_true rfl, Nat.le_of_ble_eq_true rfl⟩)
