/-! THE CLAIM OUT OF ONE WALK OF THE LAW'S BODY. Your part is whole_start (and what it stands on); all else here is the same for every law, but numbers. -/
def R_law : String := "BrightbandLaw"
def lw_P (b : Addr) (xs : List Int32) (args : Array Value) (s : State) : Prop := args = #[.ref b] ∧ s.IntsAt b xs ∧ xs.length ≤ 2560 ∧ (Jvm.Cond.and given_1 narrow_1).before args s = true
/-- what a walk over the start with the record d0 says of its end, said of the start itself -/
theorem lw_closed {s t : State} {o : Outcome} {d0 : Drawn} {L : List Loc} {k n : Nat} (hd0 : s.drawn.sameBut d0 lw_cs) (hv : ∃ v, o = .returned v) (hW : (s.setDrawn d0).WarmedH t.vm) (hs : (s.setDrawn d0).sameButNew ({ t with vm := s.vm } : State) L k n) : State.butDraws s t lw_cs (fun t1 => Framed s o t1 L k n) := by
  have h2 : t.drawn = d0 := congrArg State.drawn hs.1
  refine ⟨⟨hv, hW, State.sameButNew.setDrawn hs s.drawn⟩, ?_, by decide⟩
  rw [h2]
  exact hd0
def lw_Q (_ : Array Value) (s : State) (o : Outcome) (t : State) : Prop := o = .returned (some (.int 1)) ∧ State.butDraws s t lw_cs (fun t1 => Framed s o t1 [] 1065 13272)
def lw_Z (below : List Frame) (a : Array Value) (s : State) : State → Prop := fun t => ∃ o, t.status = .running ∧ Ended t below o ∧ lw_Q a s o t
/-- the law's own end, with 1 on the stack, nothing written that was there before, its room as the claim has it; d0: the record of draws at this point (at the entry s.drawn: begin with 'refine W.base ?_' and 'have hd0 := Drawn.sameBut.refl s.drawn lw_cs') -/
theorem lw_ret {p : Program} {l : Launch} {e : Env} {s : State} {m : MethodId} {below : List Frame} {meth : Method} {c : Code} {b : Nat} {d0 : Drawn} (hd0 : s.drawn.sameBut d0 lw_cs) (hx : p.tables.exec = Jvm.exec) (hb : c.code = code) (hr : meth.sig.returnType = ret) (hlocks : meth.locks = false) {pc : Nat} {H : Heap} {ls : Array Slot} (hdg : decode code pc = .ok (.ireturn, 1)) : W p l e room_1 (s.setDrawn d0) m #[Value.ref b] below meth c H [] 1065 13272 (lw_Z below #[Value.ref b] s) (F0 m pc ls [.int 1]) := by
  intro T hT X
  obtain ⟨fs, hret, hrun, hended, hW, hframe⟩ := X.leave (v := some (.int 1)) (hlocks := hlocks) (fun h => by rw [hr] at h; cases h)
  have hmeth' : T.vm.method? m = some meth := X.method'
  refine ⟨T.setFrames fs, ?_, .returned (some (.int 1)), hrun, hended, rfl, lw_closed hd0 ⟨_, rfl⟩ hW hframe⟩
  jvm_step X.here [X.here.top, hx, hb, hdg, hmeth', hr, ret, narrow_b1]
  (try refine ⟨rfl, ?_⟩); (try refine ⟨rfl, ?_⟩)
  first | (intro acts; rw [hret _ acts rfl rfl rfl]) | rw [hret _ _ rfl rfl rfl]
  exact Steps.refl _
/-- what holds at the law's entry: the machine, the code, the tables' words (any of lw_tbl by 'hts w (by decide +kernel)'), the script of L ints xs at the cell b, what the Statement gives of the start (any of its parts by flat_of_before) -/
def lw_At (p : Program) (s : State) (m : MethodId) (meth : Method) (c : Code) (b L : Nat) (xs : Nat → Int32) : Prop :=
  p.tables.exec = Jvm.exec ∧ c.code = code ∧ meth.sig.returnType = ret ∧ c.maxLocals = 8 ∧ s.vm.findClass R_law = some m.cls ∧ (∀ w ∈ lw_tbl, w.before #[Value.ref b] s = true) ∧ va_X b L xs s s.heap ∧ b < s.heap.size ∧ meth.locks = false ∧ (Jvm.Cond.and given_1 narrow_1).before #[Value.ref b] s = true
set_option maxHeartbeats 4000000 in
set_option maxRecDepth 100000 in
theorem law_loop {p : Program} {l : Launch} {e : Env} {s : State} {m : MethodId} {below : List Frame} {meth : Method} {c : Code} {b L : Nat} {xs : Nat → Int32} {D : va_G} {cI cJ cZ : ClassId} {h0 mm ou : Nat} (hx : p.tables.exec = Jvm.exec) (hb : c.code = cL_law) (hr : meth.sig.returnType = ret) (hlocks : meth.locks = false) (hX : va_X b L xs s s.heap) (hbl : b < s.heap.size) (hL : L ≤ 2560) (X : ∀ j, 5 * j + 5 ≤ L → LC p l s m meth c b L xs D cI cJ cZ (fun q : Nat => s.heap.size ≤ q) j) : ∀ (n j : Nat), j + n = 512 → ∀ (ai : Nat) (pu : Nat) (pa : Nat) (ga : Nat) (sc : Nat) (hi : Nat) (gr : Nat) (me : Nat) (dp : Nat) (up : Bool) (mi : Nat) (ru : Nat) (wp : Int64) (wl : Int64) (a1 : Nat) (C : Nat → Nat) (u1 : Nat) (u2 : Nat) (u3 : Nat) (u4 : Nat) (u5 : Nat) (PK : Nat → Nat) (PL : Nat → Nat) (PS : Nat → Nat) (PN : Nat → Nat) (PM : Nat → Nat) (pn : Nat) (p1 : Nat) (p2 : Nat) (ML : Nat → Nat) (SP : Nat → Int) (g1 : Nat) (g2 : Nat) (g3 : Nat) (UP : Nat → Bool) (CL : Nat → Bool) (CO : Nat → Int64) (s1 : Nat) (s2 : Nat) (EC : Nat → Int64) (RU : Nat → Nat) (sm : Nat) (HI : Nat → Nat) (GR : Nat → Int64) (thr : Nat) (ma : Nat) (mx : Nat) (mh : Nat) (mg : Nat) (mc : Nat) (mo : Nat) (mr : Nat) (mf : Nat) (mk : Nat) (ml : Nat) (NX : Nat → Nat) (FA : Nat → Int64) (OU : Nat → Int64) (H : Heap) (locs : List Loc) (ls : Array Slot), INV C GR PK PL PS PN PM ML SP mi pn me dp HI UP CL CO EC RU ru sm → va_P D vwCl [(h0, .inr (5, [.ref ai, .ref pu, .ref pa, .ref ga, .ref sc, .ref hi, .ref gr, .int (nI me), .int (nI dp), .int (bI up), .int (nI mi), .int (nI ru), .long wp, .long wl])), (ai, .inr (0, [.ref a1])), (a1, .inl (cI, 600, .inl (nA C))), (pu, .inr (3, [.ref u1, .ref u2, .ref u3, .ref u4, .ref u5, .int (nI pn)])), (u1, .inl (cI, 100, .inl (nA PK))), (u2, .inl (cI, 100, .inl (nA PL))), (u3, .inl (cI, 100, .inl (nA PS))), (u4, .inl (cI, 100, .inl (nA PN))), (u5, .inl (cI, 100, .inl (nA PM))), (pa, .inr (2, [.ref p1, .ref p2])), (p1, .inl (cI, 601, .inl (nA ML))), (p2, .inl (cI, 601, .inl (zA SP))), (ga, .inr (1, [.ref g1, .ref g2, .ref g3])), (g1, .inl (cZ, 20, .inl (bA UP))), (g2, .inl (cZ, 20, .inl (bA CL))), (g3, .inl (cJ, 20, .inr (.inl CO))), (sc, .inr (4, [.ref s1, .ref s2, .int (nI sm)])), (s1, .inl (cJ, 600, .inr (.inl EC))), (s2, .inl (cI, 30, .inl (nA RU))), (hi, .inl (cI, 20, .inl (nA HI))), (gr, .inl (cJ, 20, .inr (.inl GR))), (mm, .inr (6, [.int (nI thr), .int (nI mi), .int (nI me), .int (nI dp), .int (bI up), .int (nI pn), .ref ma, .ref mx, .ref mh, .ref mg, .ref mc, .ref mo, .ref mr, .ref mf, .long wp, .long wl, .int (nI ru), .int (nI sm), .ref mk, .ref ml])), (ma, .inl (cI, 600, .inl (nA C))), (mx, .inl (cI, 600, .inl (nA NX))), (mh, .inl (cI, 20, .inl (nA HI))), (mg, .inl (cZ, 20, .inl (bA UP))), (mc, .inl (cZ, 20, .inl (bA CL))), (mo, .inl (cJ, 20, .inr (.inl CO))), (mr, .inl (cJ, 20, .inr (.inl GR))), (mf, .inl (cJ, 20, .inr (.inl FA))), (mk, .inl (cJ, 600, .inr (.inl EC))), (ml, .inl (cI, 30, .inl (nA RU))), (ou, .inl (cJ, 1, .inr (.inl OU)))] H → va_D (fun q : Nat => s.heap.size ≤ q) [(h0, .inr (5, [.ref ai, .ref pu, .ref pa, .ref ga, .ref sc, .ref hi, .ref gr, .int (nI me), .int (nI dp), .int (bI up), .int (nI mi), .int (nI ru), .long wp, .long wl])), (ai, .inr (0, [.ref a1])), (a1, .inl (cI, 600, .inl (nA C))), (pu, .inr (3, [.ref u1, .ref u2, .ref u3, .ref u4, .ref u5, .int (nI pn)])), (u1, .inl (cI, 100, .inl (nA PK))), (u2, .inl (cI, 100, .inl (nA PL))), (u3, .inl (cI, 100, .inl (nA PS))), (u4, .inl (cI, 100, .inl (nA PN))), (u5, .inl (cI, 100, .inl (nA PM))), (pa, .inr (2, [.ref p1, .ref p2])), (p1, .inl (cI, 601, .inl (nA ML))), (p2, .inl (cI, 601, .inl (zA SP))), (ga, .inr (1, [.ref g1, .ref g2, .ref g3])), (g1, .inl (cZ, 20, .inl (bA UP))), (g2, .inl (cZ, 20, .inl (bA CL))), (g3, .inl (cJ, 20, .inr (.inl CO))), (sc, .inr (4, [.ref s1, .ref s2, .int (nI sm)])), (s1, .inl (cJ, 600, .inr (.inl EC))), (s2, .inl (cI, 30, .inl (nA RU))), (hi, .inl (cI, 20, .inl (nA HI))), (gr, .inl (cJ, 20, .inr (.inl GR))), (mm, .inr (6, [.int (nI thr), .int (nI mi), .int (nI me), .int (nI dp), .int (bI up), .int (nI pn), .ref ma, .ref mx, .ref mh, .ref mg, .ref mc, .ref mo, .ref mr, .ref mf, .long wp, .long wl, .int (nI ru), .int (nI sm), .ref mk, .ref ml])), (ma, .inl (cI, 600, .inl (nA C))), (mx, .inl (cI, 600, .inl (nA NX))), (mh, .inl (cI, 20, .inl (nA HI))), (mg, .inl (cZ, 20, .inl (bA UP))), (mc, .inl (cZ, 20, .inl (bA CL))), (mo, .inl (cJ, 20, .inr (.inl CO))), (mr, .inl (cJ, 20, .inr (.inl GR))), (mf, .inl (cJ, 20, .inr (.inl FA))), (mk, .inl (cJ, 600, .inr (.inl EC))), (ml, .inl (cI, 30, .inl (nA RU))), (ou, .inl (cJ, 1, .inr (.inl OU)))] → va_S (fun q : Nat => s.heap.size ≤ q) s.heap H locs → lv_has ls 8 [(0, .ref b), (1, .ref h0), (2, .ref mm), (3, .ref ou), (4, .int (nI (5 * j)))] → W p l e room_1 s m #[Value.ref b] below meth c H locs (33 + j) (5032 + 6 * j) (lw_Z below #[Value.ref b] s) (F0 m 23 ls []) := by
  have hbA : ¬ (fun q : Nat => s.heap.size ≤ q) b := Nat.not_le.mpr hbl
  have hret : ∀ {cells slots : Nat} {H : Heap} {locs : List Loc} {ls : Array Slot}, cells ≤ 1065 → slots ≤ 13272 → va_S (fun q : Nat => s.heap.size ≤ q) s.heap H locs → W p l e room_1 s m #[Value.ref b] below meth c H locs cells slots (lw_Z below #[Value.ref b] s) (F0 m 1444 ls []) := by
    intro cells slots H locs ls h1 h2 hS
    refine lv_iconst (v := 1) hx hb dL_law_1444 (by decide) ?_
    refine W.widen (k := 1065) (n := 13272) h1 h2 ?_
    refine va_forget (fun q hq => hS.2.2 q hq) ?_
    refine W.base ?_
    exact lw_ret (d0 := s.drawn) (Drawn.sameBut.refl s.drawn lw_cs) hx hb hr hlocks dL_law_1445
  intro n
  induction n with
  | zero =>
    intro j hj ai pu pa ga sc hi gr me dp up mi ru wp wl a1 C u1 u2 u3 u4 u5 PK PL PS PN PM pn p1 p2 ML SP g1 g2 g3 UP CL CO s1 s2 EC RU sm HI GR thr ma mx mh mg mc mo mr mf mk ml NX FA OU H locs ls I hP hD hS hl
    refine lv_iload hx hb dL_law_23 (lv_at hl 4 rfl) ?_
    refine lv_aload_n hx hb dL_law_25 rfl (lv_at hl 0 rfl) ?_
    refine va_slen hx hb hX hbl hbA hS dL_law_26 ?_
    refine tp_i (show Int32.ofNat L = nI L from rfl) ?_
    refine lv_iconst (v := nI 5) hx hb dL_law_27 (by decide) ?_
    refine lv_isub hx hb dL_law_28 ?_
    refine tp_i (zn_sub L 5) ?_
    refine ci_gt (tgt := 1444) hx hb dL_law_29 (by decide) (nT (by omega)) (zT (by omega) (by omega)) (fun h9 => ?_) (fun h9 => by omega)
    exact hret (by omega) (by omega) hS
  | succ n ih =>
    intro j hj ai pu pa ga sc hi gr me dp up mi ru wp wl a1 C u1 u2 u3 u4 u5 PK PL PS PN PM pn p1 p2 ML SP g1 g2 g3 UP CL CO s1 s2 EC RU sm HI GR thr ma mx mh mg mc mo mr mf mk ml NX FA OU H locs ls I hP hD hS hl
    refine lv_iload hx hb dL_law_23 (lv_at hl 4 rfl) ?_
    refine lv_aload_n hx hb dL_law_25 rfl (lv_at hl 0 rfl) ?_
    refine va_slen hx hb hX hbl hbA hS dL_law_26 ?_
    refine tp_i (show Int32.ofNat L = nI L from rfl) ?_
    refine lv_iconst (v := nI 5) hx hb dL_law_27 (by decide) ?_
    refine lv_isub hx hb dL_law_28 ?_
    refine tp_i (zn_sub L 5) ?_
    refine ci_gt (tgt := 1444) hx hb dL_law_29 (by decide) (nT (by omega)) (zT (by omega) (by omega)) (fun h9 => ?_) (fun h9 => ?_)
    · exact hret (by omega) (by omega) hS
    have hjL : 5 * j + 5 ≤ L := by omega
    have X9 := X j hjL
    have K : KT p l e s m below meth c b D cI cJ cZ (fun q : Nat => s.heap.size ≤ q) (lw_Z below #[Value.ref b] s) j h0 mm ou := by
      intro ai pu pa ga sc hi gr me dp up mi ru wp wl a1 C u1 u2 u3 u4 u5 PK PL PS PN PM pn p1 p2 ML SP g1 g2 g3 UP CL CO s1 s2 EC RU sm HI GR thr ma mx mh mg mc mo mr mf mk ml NX FA OU H locs ls I hP hD hS hl
      refine lv_iinc (v := nI (5 * (j + 1))) (lv' := [(4, .int (nI (5 * (j + 1)))), (0, .ref b), (1, .ref h0), (2, .ref mm), (3, .ref ou)]) hx hb dL_law_1438 hl (k := 4) rfl ((n_inc5 (5 * j)).trans (congrArg nI (by omega))) (by decide) rfl (fun ls hl => ?_)
      refine lv_goto (tgt := 23) hx hb dL_law_1441 (by decide) ?_
      refine W.widen (k := 33 + (j + 1)) (n := 5032 + 6 * (j + 1)) (by omega) (by omega) ?_
      exact ih (j + 1) (by omega) ai pu pa ga sc hi gr me dp up mi ru wp wl a1 C u1 u2 u3 u4 u5 PK PL PS PN PM pn p1 p2 ML SP g1 g2 g3 UP CL CO s1 s2 EC RU sm HI GR thr ma mx mh mg mc mo mr mf mk ml NX FA OU H locs ls I hP hD hS (lv_sub hl [1, 2, 3, 4, 0] rfl)
    refine lv_aload_n hx hb dL_law_32 rfl (lv_at hl 0 rfl) ?_
    refine lv_iload hx hb dL_law_33 (lv_at hl 4 rfl) ?_
    refine sld9 (y := xs (5 * j)) hx hb hX hbl hbA hS (show 5 * j < L by omega) hL rfl dL_law_35 ?_
    refine lv_bipush (v := nI 31) hx hb dL_law_36 (by decide) ?_
    refine lv_iand hx hb dL_law_38 ?_
    obtain ⟨k, hk, hke⟩ := and31 (xs (5 * j))
    refine tp_i hke ?_
    obtain rfl | rfl | rfl | rfl | rfl | rfl | rfl | rfl | rfl | rfl | rfl | rfl | rfl | rfl | rfl | rfl | rfl | rfl | rfl | rfl | hk20 : k = 0 ∨ k = 1 ∨ k = 2 ∨ k = 3 ∨ k = 4 ∨ k = 5 ∨ k = 6 ∨ k = 7 ∨ k = 8 ∨ k = 9 ∨ k = 10 ∨ k = 11 ∨ k = 12 ∨ k = 13 ∨ k = 14 ∨ k = 15 ∨ k = 16 ∨ k = 17 ∨ k = 18 ∨ k = 19 ∨ 20 ≤ k := by omega
    · refine lv_tableIn (tgt := 132) hx hb dL_law_39 (by decide) (by decide) rfl (by decide) ?_
      exact lc_drops X9 K I hP hD hS hl
    · refine lv_tableIn (tgt := 224) hx hb dL_law_39 (by decide) (by decide) rfl (by decide) ?_
      exact lc_melt X9 K I hP hD hS hl
    · refine lv_tableIn (tgt := 280) hx hb dL_law_39 (by decide) (by decide) rfl (by decide) ?_
      exact lc_hill X9 K I hP hD hS hl
    · refine lv_tableIn (tgt := 348) hx hb dL_law_39 (by decide) (by decide) rfl (by decide) ?_
      exact lc_drift X9 K I hP hD hS hl
    · refine lv_tableIn (tgt := 432) hx hb dL_law_39 (by decide) (by decide) rfl (by decide) ?_
      exact lc_gauge X9 K I hP hD hS hl
    · refine lv_tableIn (tgt := 523) hx hb dL_law_39 (by decide) (by decide) rfl (by decide) ?_
      exact lc_clog X9 K I hP hD hS hl
    · refine lv_tableIn (tgt := 614) hx hb dL_law_39 (by decide) (by decide) rfl (by decide) ?_
      exact lc_pass X9 K I hP hD hS hl
    · refine lv_tableIn (tgt := 670) hx hb dL_law_39 (by decide) (by decide) rfl (by decide) ?_
      exact lc_scan X9 K I hP hD hS hl
    · refine lv_tableIn (tgt := 726) hx hb dL_law_39 (by decide) (by decide) rfl (by decide) ?_
      exact lc_rule X9 K I hP hD hS hl
    · refine lv_tableIn (tgt := 782) hx hb dL_law_39 (by decide) (by decide) rfl (by decide) ?_
      exact lc_count X9 K I hP hD hS hl
    · refine lv_tableIn (tgt := 862) hx hb dL_law_39 (by decide) (by decide) rfl (by decide) ?_
      exact lc_phase X9 K I hP hD hS hl
    · refine lv_tableIn (tgt := 918) hx hb dL_law_39 (by decide) (by decide) rfl (by decide) ?_
      exact lc_echo X9 K I hP hD hS hl
    · refine lv_tableIn (tgt := 985) hx hb dL_law_39 (by decide) (by decide) rfl (by decide) ?_
      exact lc_seen X9 K I hP hD hS hl
    · refine lv_tableIn (tgt := 1052) hx hb dL_law_39 (by decide) (by decide) rfl (by decide) ?_
      exact lc_rain X9 K I hP hD hS hl
    · refine lv_tableIn (tgt := 1107) hx hb dL_law_39 (by decide) (by decide) rfl (by decide) ?_
      exact lc_rainBy X9 K I hP hD hS hl
    · refine lv_tableIn (tgt := 1174) hx hb dL_law_39 (by decide) (by decide) rfl (by decide) ?_
      exact lc_motion X9 K I hP hD hS hl
    · refine lv_tableIn (tgt := 1218) hx hb dL_law_39 (by decide) (by decide) rfl (by decide) ?_
      exact lc_collected X9 K I hP hD hS hl
    · refine lv_tableIn (tgt := 1273) hx hb dL_law_39 (by decide) (by decide) rfl (by decide) ?_
      exact lc_ground X9 K I hP hD hS hl
    · refine lv_tableIn (tgt := 1328) hx hb dL_law_39 (by decide) (by decide) rfl (by decide) ?_
      exact lc_groundAnew X9 K I hP hD hS hl
    · refine lv_tableIn (tgt := 1383) hx hb dL_law_39 (by decide) (by decide) rfl (by decide) ?_
      exact lc_water X9 K I hP hD hS hl
    · refine lv_tableOut (tgt := 1438) hx hb dL_law_39 (Or.inr (by rw [nT (by omega)]; omega)) (by decide) ?_
      refine W.widen (k := 33 + j + 1) (n := 5032 + 6 * j + 6) (by omega) (by omega) ?_
      exact K ai pu pa ga sc hi gr me dp up mi ru wp wl a1 C u1 u2 u3 u4 u5 PK PL PS PN PM pn p1 p2 ML SP g1 g2 g3 UP CL CO s1 s2 EC RU sm HI GR thr ma mx mh mg mc mo mr mf mk ml NX FA OU H locs ls I hP hD hS hl
