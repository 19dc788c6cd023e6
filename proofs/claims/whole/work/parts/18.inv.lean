/-! ===== the law's world, what holds in it, and a call's end ===== -/
def INV (C : Nat → Nat) (GR : Nat → Int64) (PK : Nat → Nat) (PL : Nat → Nat) (PS : Nat → Nat) (PN : Nat → Nat) (PM : Nat → Nat) (ML : Nat → Nat) (SP : Nat → Int) (mi : Nat) (pn : Nat) (me : Nat) (dp : Nat) (HI : Nat → Nat) (UP : Nat → Bool) (CL : Nat → Bool) (CO : Nat → Int64) (EC : Nat → Int64) (RU : Nat → Nat) (ru : Nat) (sm : Nat) : Prop :=
  PI C GR PK PL PS PN PM ML SP mi pn ∧ me < 10 ∧ dp ≤ 60 ∧ mi ≤ 600 ∧ (∀ k, k < 20 → HI k ≤ 9) ∧ (∀ k, UP k = false → CL k = false ∧ CO k = 0) ∧ (∀ x, 20 * sm ≤ x → EC x = 0) ∧ (∀ k, k < sm → 1 ≤ RU k ∧ RU k ≤ 1000) ∧ 1 ≤ ru ∧ ru ≤ 1000 ∧ sm ≤ 30
section INVS
variable {C : Nat → Nat} {GR : Nat → Int64} {PK : Nat → Nat} {PL : Nat → Nat} {PS : Nat → Nat} {PN : Nat → Nat} {PM : Nat → Nat} {ML : Nat → Nat} {SP : Nat → Int} {mi : Nat} {pn : Nat} {me : Nat} {dp : Nat} {HI : Nat → Nat} {UP : Nat → Bool} {CL : Nat → Bool} {CO : Nat → Int64} {EC : Nat → Int64} {RU : Nat → Nat} {ru : Nat} {sm : Nat}
theorem inv_melt {la : Nat} (I : INV C GR PK PL PS PN PM ML SP mi pn me dp HI UP CL CO EC RU ru sm) (h : la < 10) : INV C GR PK PL PS PN PM ML SP mi pn la dp HI UP CL CO EC RU ru sm := ⟨I.1, h, I.2.2⟩
theorem inv_drift {pp : Nat} (I : INV C GR PK PL PS PN PM ML SP mi pn me dp HI UP CL CO EC RU ru sm) (h : pp ≤ 60) : INV C GR PK PL PS PN PM ML SP mi pn me pp HI UP CL CO EC RU ru sm := ⟨I.1, I.2.1, h, I.2.2.2⟩
theorem inv_hill {ki hh : Nat} (I : INV C GR PK PL PS PN PM ML SP mi pn me dp HI UP CL CO EC RU ru sm) (h : hh ≤ 9) : INV C GR PK PL PS PN PM ML SP mi pn me dp (uN HI ki hh) UP CL CO EC RU ru sm := by
  obtain ⟨a1, a2, a3, a4, a5, a6⟩ := I
  refine ⟨a1, a2, a3, a4, fun k hk => ?_, a6⟩
  rcases Decidable.em (k = ki) with e | e
  · rw [e, uN_s]; exact h
  · rw [uN_n e]; exact a5 k hk
theorem inv_rule {rr : Nat} (I : INV C GR PK PL PS PN PM ML SP mi pn me dp HI UP CL CO EC RU ru sm) (h1 : 1 ≤ rr) (h2 : rr ≤ 1000) : INV C GR PK PL PS PN PM ML SP mi pn me dp HI UP CL CO EC RU rr sm := by
  obtain ⟨a1, a2, a3, a4, a5, a6, a7, a8, a9, a10, a11⟩ := I
  exact ⟨a1, a2, a3, a4, a5, a6, a7, a8, h1, h2, a11⟩
theorem inv_drops {ki la si mn x0 : Nat} (I : INV C GR PK PL PS PN PM ML SP mi pn me dp HI UP CL CO EC RU ru sm) (hx0 : x0 = 30 * ki + 3 * la + (si - 1)) (hki : ki < 20) (hla : la < 10) (hs1 : 1 ≤ si) (hs3 : si ≤ 3) (hmn : mn ≤ 1000) (hpn : pn < 100) : INV (uN C x0 (C x0 + mn)) GR (uN PK pn ki) (uN PL pn la) (uN PS pn si) (uN PN pn mn) (uN PM pn mi) ML SP mi (pn + 1) me dp HI UP CL CO EC RU ru sm :=
  ⟨PI_put hx0 hki hla hs1 hs3 hmn hpn I.1, I.2⟩
theorem inv_gauge (I : INV C GR PK PL PS PN PM ML SP mi pn me dp HI UP CL CO EC RU ru sm) (ki : Nat) (bb : Bool) : INV C GR PK PL PS PN PM ML SP mi pn me dp HI (if UP ki = bb then UP else uN UP ki bb) (if UP ki = bb then CL else uN CL ki false) (if UP ki = bb then CO else uN CO ki 0) EC RU ru sm := by
  obtain ⟨a1, a2, a3, a4, a5, a6, a7⟩ := I
  refine ⟨a1, a2, a3, a4, a5, fun k => ?_, a7⟩
  rcases Decidable.em (UP ki = bb) with h | h
  · rw [if_pos h, if_pos h, if_pos h]
    exact a6 k
  · rw [if_neg h, if_neg h, if_neg h]
    rcases Decidable.em (k = ki) with e | e
    · rw [e, uN_s, uN_s, uN_s]
      exact fun _ => ⟨rfl, rfl⟩
    · rw [uN_n e, uN_n e, uN_n e]
      exact a6 k
theorem inv_clog {ki : Nat} {bb : Bool} (I : INV C GR PK PL PS PN PM ML SP mi pn me dp HI UP CL CO EC RU ru sm) (hup : UP ki = true) : INV C GR PK PL PS PN PM ML SP mi pn me dp HI UP (uN CL ki bb) CO EC RU ru sm := by
  obtain ⟨a1, a2, a3, a4, a5, a6, a7⟩ := I
  refine ⟨a1, a2, a3, a4, a5, fun k hk => ?_, a7⟩
  rcases Decidable.em (k = ki) with e | e
  · rw [e, hup] at hk
    cases hk
  · rw [uN_n e]; exact a6 k hk
theorem inv_scan {ev : Nat} (I : INV C GR PK PL PS PN PM ML SP mi pn me dp HI UP CL CO EC RU ru sm) (hsm : sm < 30) : INV C GR PK PL PS PN PM ML SP mi pn me dp HI UP CL CO (scE C me ev EC sm (rch HI ev 20 0)) (uN RU sm ru) ru (sm + 1) := by
  obtain ⟨a1, a2, a3, a4, a5, a6, a7, a8, a9, a10, a11⟩ := I
  refine ⟨a1, a2, a3, a4, a5, a6, scE_0 a7, fun k hk => ?_, a9, a10, hsm⟩
  rcases Decidable.em (k = sm) with e | e
  · rw [e, uN_s]; exact ⟨a9, a10⟩
  · rw [uN_n e]; exact a8 k (by omega)
theorem inv_pass {mn : Nat} {up : Bool} {wl : Int64} (I : INV C GR PK PL PS PN PM ML SP mi pn me dp HI UP CL CO EC RU ru sm) (hmm : mi + mn ≤ 600) : INV (pv me dp up UP CL mi (C, GR, CO, wl, ML, SP) mn).1 (pv me dp up UP CL mi (C, GR, CO, wl, ML, SP) mn).2.1 PK PL PS PN PM (pv me dp up UP CL mi (C, GR, CO, wl, ML, SP) mn).2.2.2.2.1 (pv me dp up UP CL mi (C, GR, CO, wl, ML, SP) mn).2.2.2.2.2 (mi + mn) pn me dp HI UP CL (pv me dp up UP CL mi (C, GR, CO, wl, ML, SP) mn).2.2.1 EC RU ru sm := by
  obtain ⟨a1, a2, a3, a4, a5, a6, a7⟩ := I
  exact ⟨PI_pv (GR := GR) (v := (C, GR, CO, wl, ML, SP)) a2 a1 mn, a2, a3, hmm, a5, fun k hk => ⟨(a6 k hk).1, GO_pv (v := (C, GR, CO, wl, ML, SP)) (fun k hk => (a6 k hk).2) mn k hk⟩, a7⟩
theorem gauge_true (h : ∀ k, UP k = false → CL k = false ∧ CO k = 0) (ki : Nat) : (if UP ki = true then UP else uN UP ki true) = uN UP ki true ∧ (if UP ki = true then CL else uN CL ki false) = uN CL ki (CL ki) ∧ (if UP ki = true then CO else uN CO ki 0) = uN CO ki (CO ki) := by
  rcases Decidable.em (UP ki = true) with e | e
  · rw [if_pos e, if_pos e, if_pos e]
    refine ⟨?_, (uN_same _ _).symm, (uN_same _ _).symm⟩
    rw [← e, uN_same]
  · have e2 : UP ki = false := by cases hq : UP ki <;> simp_all
    rw [if_neg e, if_neg e, if_neg e, (h ki e2).1, (h ki e2).2]
    exact ⟨rfl, rfl, rfl⟩
theorem gauge_false (h : ∀ k, UP k = false → CL k = false ∧ CO k = 0) (ki : Nat) : (if UP ki = false then UP else uN UP ki false) = uN UP ki false ∧ (if UP ki = false then CL else uN CL ki false) = uN CL ki false ∧ (if UP ki = false then CO else uN CO ki 0) = uN CO ki 0 := by
  rcases Decidable.em (UP ki = false) with e | e
  · rw [if_pos e, if_pos e, if_pos e]
    refine ⟨?_, ?_, ?_⟩
    · rw [← e, uN_same]
    · rw [← (h ki e).1, uN_same]
    · rw [← (h ki e).2, uN_same]
  · rw [if_neg e, if_neg e, if_neg e]
    exact ⟨rfl, rfl, rfl⟩
end INVS
def LC (p : Program) (l : Launch) (s : State) (m : MethodId) (meth : Method) (c : Code) (b L : Nat) (xs : Nat → Int32) (D : va_G) (cI cJ cZ : ClassId) (A : Nat → Prop) (j : Nat) : Prop :=
  p.tables.exec = Jvm.exec ∧ c.code = cL_law ∧ c.maxLocals = 8 ∧ s.vm.findClass RL = some m.cls ∧ (∀ w ∈ wsL_law, w.before #[Value.ref b] s = true) ∧ TB D cI cJ cZ s ∧ ST s ∧ SQ A s s.heap ∧ va_X b L xs s s.heap ∧ b < s.heap.size ∧ (∀ q, s.heap.size ≤ q → A q) ∧ ¬ A b ∧ 5 * j + 5 ≤ L ∧ L ≤ 2560 ∧ l.stackTraces = false
def KT (p : Program) (l : Launch) (e : Env) (s : State) (m : MethodId) (below : List Frame) (meth : Method) (c : Code) (b : Nat) (D : va_G) (cI cJ cZ : ClassId) (A : Nat → Prop) (Q : State → Prop) (j h0 mm ou : Nat) : Prop :=
  ∀ (ai : Nat) (pu : Nat) (pa : Nat) (ga : Nat) (sc : Nat) (hi : Nat) (gr : Nat) (me : Nat) (dp : Nat) (up : Bool) (mi : Nat) (ru : Nat) (wp : Int64) (wl : Int64) (a1 : Nat) (C : Nat → Nat) (u1 : Nat) (u2 : Nat) (u3 : Nat) (u4 : Nat) (u5 : Nat) (PK : Nat → Nat) (PL : Nat → Nat) (PS : Nat → Nat) (PN : Nat → Nat) (PM : Nat → Nat) (pn : Nat) (p1 : Nat) (p2 : Nat) (ML : Nat → Nat) (SP : Nat → Int) (g1 : Nat) (g2 : Nat) (g3 : Nat) (UP : Nat → Bool) (CL : Nat → Bool) (CO : Nat → Int64) (s1 : Nat) (s2 : Nat) (EC : Nat → Int64) (RU : Nat → Nat) (sm : Nat) (HI : Nat → Nat) (GR : Nat → Int64) (thr : Nat) (ma : Nat) (mx : Nat) (mh : Nat) (mg : Nat) (mc : Nat) (mo : Nat) (mr : Nat) (mf : Nat) (mk : Nat) (ml : Nat) (NX : Nat → Nat) (FA : Nat → Int64) (OU : Nat → Int64) (H : Heap) (locs : List Loc) (ls : Array Slot), INV C GR PK PL PS PN PM ML SP mi pn me dp HI UP CL CO EC RU ru sm → va_P D vwCl [(h0, .inr (5, [.ref ai, .ref pu, .ref pa, .ref ga, .ref sc, .ref hi, .ref gr, .int (nI me), .int (nI dp), .int (bI up), .int (nI mi), .int (nI ru), .long wp, .long wl])), (ai, .inr (0, [.ref a1])), (a1, .inl (cI, 600, .inl (nA C))), (pu, .inr (3, [.ref u1, .ref u2, .ref u3, .ref u4, .ref u5, .int (nI pn)])), (u1, .inl (cI, 100, .inl (nA PK))), (u2, .inl (cI, 100, .inl (nA PL))), (u3, .inl (cI, 100, .inl (nA PS))), (u4, .inl (cI, 100, .inl (nA PN))), (u5, .inl (cI, 100, .inl (nA PM))), (pa, .inr (2, [.ref p1, .ref p2])), (p1, .inl (cI, 601, .inl (nA ML))), (p2, .inl (cI, 601, .inl (zA SP))), (ga, .inr (1, [.ref g1, .ref g2, .ref g3])), (g1, .inl (cZ, 20, .inl (bA UP))), (g2, .inl (cZ, 20, .inl (bA CL))), (g3, .inl (cJ, 20, .inr (.inl CO))), (sc, .inr (4, [.ref s1, .ref s2, .int (nI sm)])), (s1, .inl (cJ, 600, .inr (.inl EC))), (s2, .inl (cI, 30, .inl (nA RU))), (hi, .inl (cI, 20, .inl (nA HI))), (gr, .inl (cJ, 20, .inr (.inl GR))), (mm, .inr (6, [.int (nI thr), .int (nI mi), .int (nI me), .int (nI dp), .int (bI up), .int (nI pn), .ref ma, .ref mx, .ref mh, .ref mg, .ref mc, .ref mo, .ref mr, .ref mf, .long wp, .long wl, .int (nI ru), .int (nI sm), .ref mk, .ref ml])), (ma, .inl (cI, 600, .inl (nA C))), (mx, .inl (cI, 600, .inl (nA NX))), (mh, .inl (cI, 20, .inl (nA HI))), (mg, .inl (cZ, 20, .inl (bA UP))), (mc, .inl (cZ, 20, .inl (bA CL))), (mo, .inl (cJ, 20, .inr (.inl CO))), (mr, .inl (cJ, 20, .inr (.inl GR))), (mf, .inl (cJ, 20, .inr (.inl FA))), (mk, .inl (cJ, 600, .inr (.inl EC))), (ml, .inl (cI, 30, .inl (nA RU))), (ou, .inl (cJ, 1, .inr (.inl OU)))] H → va_D A [(h0, .inr (5, [.ref ai, .ref pu, .ref pa, .ref ga, .ref sc, .ref hi, .ref gr, .int (nI me), .int (nI dp), .int (bI up), .int (nI mi), .int (nI ru), .long wp, .long wl])), (ai, .inr (0, [.ref a1])), (a1, .inl (cI, 600, .inl (nA C))), (pu, .inr (3, [.ref u1, .ref u2, .ref u3, .ref u4, .ref u5, .int (nI pn)])), (u1, .inl (cI, 100, .inl (nA PK))), (u2, .inl (cI, 100, .inl (nA PL))), (u3, .inl (cI, 100, .inl (nA PS))), (u4, .inl (cI, 100, .inl (nA PN))), (u5, .inl (cI, 100, .inl (nA PM))), (pa, .inr (2, [.ref p1, .ref p2])), (p1, .inl (cI, 601, .inl (nA ML))), (p2, .inl (cI, 601, .inl (zA SP))), (ga, .inr (1, [.ref g1, .ref g2, .ref g3])), (g1, .inl (cZ, 20, .inl (bA UP))), (g2, .inl (cZ, 20, .inl (bA CL))), (g3, .inl (cJ, 20, .inr (.inl CO))), (sc, .inr (4, [.ref s1, .ref s2, .int (nI sm)])), (s1, .inl (cJ, 600, .inr (.inl EC))), (s2, .inl (cI, 30, .inl (nA RU))), (hi, .inl (cI, 20, .inl (nA HI))), (gr, .inl (cJ, 20, .inr (.inl GR))), (mm, .inr (6, [.int (nI thr), .int (nI mi), .int (nI me), .int (nI dp), .int (bI up), .int (nI pn), .ref ma, .ref mx, .ref mh, .ref mg, .ref mc, .ref mo, .ref mr, .ref mf, .long wp, .long wl, .int (nI ru), .int (nI sm), .ref mk, .ref ml])), (ma, .inl (cI, 600, .inl (nA C))), (mx, .inl (cI, 600, .inl (nA NX))), (mh, .inl (cI, 20, .inl (nA HI))), (mg, .inl (cZ, 20, .inl (bA UP))), (mc, .inl (cZ, 20, .inl (bA CL))), (mo, .inl (cJ, 20, .inr (.inl CO))), (mr, .inl (cJ, 20, .inr (.inl GR))), (mf, .inl (cJ, 20, .inr (.inl FA))), (mk, .inl (cJ, 600, .inr (.inl EC))), (ml, .inl (cI, 30, .inl (nA RU))), (ou, .inl (cJ, 1, .inr (.inl OU)))] → va_S A s.heap H locs → lv_has ls 8 [(0, .ref b), (1, .ref h0), (2, .ref mm), (3, .ref ou), (4, .int (nI (5 * j)))] → W p l e room_1 s m #[Value.ref b] below meth c H locs (33 + j + 1) (5032 + 6 * j + 6) Q (F0 m 1438 ls [])
section MYLAW
variable {p : Program} {l : Launch} {e : Env} {R : Room} {s : State} {m : MethodId} {args : Array Value} {below : List Frame} {meth : Method} {c : Code} {H H0 : Heap} {locs : List Loc} {cells slots : Nat} {Q : State → Prop} {pc : Nat} {ls : Array Slot} {rest st0 : List Value} {cc : ByteArray}
variable {D : va_G} {A : Nat → Prop} {ws wc wr w1 ws2 : va_W} {a : Array Value}
theorem sld9 (hexec : p.tables.exec = Jvm.exec) (hb : c.code = cc) {b L : Nat} {xs : Nat → Int32} (hX : va_X b L xs s H0) (hbl : b < H0.size) (hbA : ¬ A b) (hS : va_S A H0 H locs) {j : Nat} {y : Int32} (hj : j < L) (hL : L ≤ 2560) (hv : xs j = y) (hdg : decode cc pc = .ok (.iaload, 1))
    (kk : W p l e R s m args below meth c H locs cells slots Q (F0 m (pc + 1) ls (.int y :: rest))) : W p l e R s m args below meth c H locs cells slots Q (F0 m pc ls (.int (nI j) :: .ref b :: rest)) := by
  refine va_sld hexec hb hX hbl hbA hS (vp_in_nI hj (by omega)) hdg ?_
  rw [nI_clamp (by omega), hv]
  exact kk
theorem crx_i {r : Int32} {mc ms : Nat} (hP : va_P D vwCl ws H) (hD : va_D A ws) (hS : va_S A s.heap H locs) (hA : ∀ q, s.heap.size ≤ q → A q) (isC : List Nat) (hC : isC.map (fun i => ws[i]?) = wc.map some) (h1 : w1.map Prod.fst = wc.map Prod.fst) (h2 : pl9 isC w1 ws = ws2)
    (hr : vx_Run p l e R s m args below meth c H locs cells slots mc ms (F0 m pc ls st0) rest (Qi9 D (va_A wc H.size) w1 r a) XN (va_A wc H.size))
    (kk : ∀ (H1 : Heap) (locs1 : List Loc), va_P D vwCl ws2 H1 → va_D A ws2 → va_S A s.heap H1 locs1 → W p l e R s m args below meth c H1 locs1 (cells + mc) (slots + ms) Q (F0 m (pc + 3) ls (.int r :: rest))) : W p l e R s m args below meth c H locs cells slots Q (F0 m pc ls st0) := by
  have hF := va_free hD hS hA isC hC
  refine vx_calli hr hS (fun q _ h => hF q h) hF (fun q _ h => h.elim) (fun E' ce q9 u t H1 locs1 _ _ hp _ _ _ _ _ _ _ => hp.elim) (fun r' u t H1 locs1 ht _ hp hB _ hk hS1 => ?_)
  subst hp
  rw [ht] at hB
  obtain ⟨g1, g2⟩ := jn9 hP hD isC hC h1 h2 hk hB.1
  exact kk H1 locs1 g1 g2 hS1
theorem cr_i2 {r : Int32} {w1 : Nat → Nat → va_W} (hP : va_P D vwCl ws H) (hD : va_D A ws) (hS : va_S A s.heap H locs) (hA : ∀ q, s.heap.size ≤ q → A q) (isC isR : List Nat) (hC : isC.map (fun i => ws[i]?) = wc.map some) (hR : isR.map (fun i => ws[i]?) = wr.map some) (hn : va_nd isR = true) (hdis : ∀ i ∈ isR, i ∉ isC)
    (hr : va_Run p l e R s m args below meth c H locs cells slots 0 0 (F0 m pc ls st0) rest (Qi2 D (va_A wc H.size) w1 r a) (va_A wc H.size))
    (kk : ∀ (y1 y2 : Nat) (H1 : Heap) (locs1 : List Loc), va_P D vwCl (wr ++ w1 y1 y2) H1 → va_D A (wr ++ w1 y1 y2) → va_S A s.heap H1 locs1 → W p l e R s m args below meth c H1 locs1 cells slots Q (F0 m (pc + 3) ls (.int r :: rest))) : W p l e R s m args below meth c H locs cells slots Q (F0 m pc ls st0) := by
  have hF := va_free hD hS hA isC hC
  refine va_calli hr hS (fun q _ h => hF q h) hF (fun r' u t H1 locs1 ht _ hp hB _ hk hS1 => ?_)
  subst hp
  rw [ht] at hB
  obtain ⟨g1, g2⟩ := va_join hP hD isC isR hC hR hn hdis hk hF hB.1 hB.2
  exact kk u.1 u.2 H1 locs1 g1 g2 hS1
end MYLAW
theorem cg_0 {D : va_G} {A : Nat → Prop} {ws : va_W} {H : Heap} (hP : va_P D vwCl ws H) (hD : va_D A ws) (k : Nat) {a : Nat} {cA : ClassId} {x y : vp_A} (he : ws[k]? = some (a, .inl (cA, x))) (h : vp_cell cA x = vp_cell cA y) : va_P D vwCl (ws.set k (a, .inl (cA, y))) H ∧ va_D A (ws.set k (a, .inl (cA, y))) := by
  have hk : k < ws.length := (List.getElem?_eq_some_iff.mp he).1
  have key : ∀ (i : Nat) (q : Nat × va_E), (ws.set k (a, .inl (cA, y)))[i]? = some q → ∃ q0, ws[i]? = some q0 ∧ q0.1 = q.1 ∧ (va_at D vwCl q0 H → va_at D vwCl q H) := by
    intro i q hq
    rcases Decidable.em (i = k) with e | e
    · rw [e, List.getElem?_set_self hk] at hq
      cases hq
      refine ⟨(a, .inl (cA, x)), by rw [e]; exact he, rfl, fun h9 => ?_⟩
      show H[a]? = some (vp_cell cA y)
      rw [← h]
      exact h9
    · rw [List.getElem?_set_ne (Ne.symm e)] at hq
      exact ⟨q, hq, rfl, id⟩
  refine ⟨fun i q hq => ?_, fun i j x y hi hj hxy => ?_, fun i q hq => ?_⟩
  · obtain ⟨q0, a1, a2, a3⟩ := key i q hq
    exact a3 (hP i q0 a1)
  · obtain ⟨x0, a1, a2, -⟩ := key i x hi
    obtain ⟨y0, b1, b2, -⟩ := key j y hj
    exact hD.1 i j x0 y0 a1 b1 (a2.trans (hxy.trans b2.symm))
  · obtain ⟨q0, a1, a2, -⟩ := key i q hq
    rw [← a2]
    exact hD.2 i q0 a1
theorem arr_cg {cA : ClassId} {n : Nat} {f g : Nat → Value} (h : ∀ i, i < n → f i = g i) : arrV cA n f = arrV cA n g := by
  unfold arrV
  congr 1
  exact congrArg Array.ofFn (funext fun i => h i.val i.isLt)
theorem cgN {D : va_G} {A : Nat → Prop} {ws : va_W} {H : Heap} (g : Nat → Nat) (hP : va_P D vwCl ws H) (hD : va_D A ws) (k : Nat) {a n : Nat} {cA : ClassId} {f : Nat → Nat} (he : ws[k]? = some (a, .inl (cA, n, .inl (nA f)))) (h : ∀ i, i < n → f i = g i) : va_P D vwCl (ws.set k (a, .inl (cA, n, .inl (nA g)))) H ∧ va_D A (ws.set k (a, .inl (cA, n, .inl (nA g)))) :=
  cg_0 hP hD k he (arr_cg (cA := cA) (n := n) (f := fun j => .int (nA f j)) (g := fun j => .int (nA g j)) (fun i hi => by show Value.int (nI (f i)) = Value.int (nI (g i)); rw [h i hi]))
theorem cgL {D : va_G} {A : Nat → Prop} {ws : va_W} {H : Heap} (g : Nat → Int64) (hP : va_P D vwCl ws H) (hD : va_D A ws) (k : Nat) {a n : Nat} {cA : ClassId} {f : Nat → Int64} (he : ws[k]? = some (a, .inl (cA, n, .inr (.inl f)))) (h : ∀ i, i < n → f i = g i) : va_P D vwCl (ws.set k (a, .inl (cA, n, .inr (.inl g)))) H ∧ va_D A (ws.set k (a, .inl (cA, n, .inr (.inl g)))) :=
  cg_0 hP hD k he (arr_cg (cA := cA) (n := n) (f := fun j => .long (f j)) (g := fun j => .long (g j)) (fun i hi => by rw [h i hi]))
