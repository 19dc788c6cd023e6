/-! ===== the law's own calls: what the class answers, or which refusal it is ===== -/
abbrev XN : String → State → State → Prop := vx_X (fun (_ : Unit) => False) (fun _ _ _ => True) (fun _ => False)
section MYCATCH
variable {p : Program} {l : Launch} {e : Env} {R : Room} {s : State} {m : MethodId} {args : Array Value} {below : List Frame} {meth : Method} {c : Code} {H : Heap} {locs : List Loc} {Q : State → Prop} {pc : Nat} {ls : Array Slot} {rest st0 : List Value}
variable {D : va_G} {A : Nat → Prop} {ws wc : va_W} {a : Array Value}
theorem wk_t {own E : String} {ce : Cell} {q9 : Addr} {H1 : Heap} {locs1 : List Loc} (hown : s.vm.findClass own = some m.cls) (pre : List ExceptionTableEntry) (x : ExceptionTableEntry) (suf : List ExceptionTableEntry) (hsplit : c.exceptionTable.toList = pre ++ x :: suf)
    (hpass : ∀ z ∈ pre, covers z pc = false ∨ (z.catchType ≠ 0 ∧ ∃ nm : String, (Cond.classLink own z.catchType nm).before args s = true ∧ va_Nc E nm s)) (hcx : covers x pc = true) (h0 : x.catchType ≠ 0)
    (hlink : (Cond.classLink own x.catchType E).before args s = true) (hca : va_Nw (.castable E E) s) (hce : H1[q9]? = some ce) (hcv : ce.vm = .none) (hcl : s.vm.findClass E = some ce.cls)
    (kk : W p l e R s m args below meth c H1 locs1 1 6 Q (F0 m x.handlerPc ls [.ref q9])) : vx_W p l e R s m args below meth c H1 locs1 (0 + 1) (0 + 6) Q (F0 m pc ls rest) q9 :=
  vx_widen (k := 1) (n := 6) (by omega) (by omega) (vx_catch hown pre x suf hsplit hpass hcx h0 hlink (va_Nw.use rfl hca) hce hcv hcl kk)
theorem wk_i {own E : String} (hown : s.vm.findClass own = some m.cls) (pre : List ExceptionTableEntry) (x : ExceptionTableEntry) (suf : List ExceptionTableEntry) (hsplit : c.exceptionTable.toList = pre ++ x :: suf)
    (hpass : ∀ z ∈ pre, covers z pc = false ∨ (z.catchType ≠ 0 ∧ ∃ nm : String, (Cond.classLink own z.catchType nm).before args s = true ∧ va_Nc E nm s)) (hcx : covers x pc = true) (h0 : x.catchType ≠ 0)
    (hlink : (Cond.classLink own x.catchType E).before args s = true) (hca : va_Nw (.castable E E) s) (hP : va_P D vwCl ws H) (hD : va_D A ws) (hS : va_S A s.heap H locs) (hA : ∀ q, s.heap.size ≤ q → A q) (isC : List Nat) (hC : isC.map (fun i => ws[i]?) = wc.map some) (h2 : pl9 isC wc ws = ws)
    (hr : vx_Run p l e R s m args below meth c H locs 0 0 1 6 (F0 m pc ls st0) rest (XQi a) (XC9 D (va_A wc H.size) wc E) (va_A wc H.size))
    (kk : ∀ (q9 : Addr) (H1 : Heap) (locs1 : List Loc), va_P D vwCl ws H1 → va_D A ws → va_S A s.heap H1 locs1 → W p l e R s m args below meth c H1 locs1 1 6 Q (F0 m x.handlerPc ls [.ref q9])) : W p l e R s m args below meth c H locs 0 0 Q (F0 m pc ls st0) := by
  have hF := va_free hD hS hA isC hC
  refine vx_calli hr hS (fun q _ h => h.elim) hF (fun q _ h => hF q h) (fun E' ce q9 u t H1 locs1 ht hvm _ hB hz hk hS1 hce hcv hcl => ?_) (fun _ u t H1 locs1 _ _ hp _ _ _ _ => hp.elim)
  rw [ht] at hB
  obtain ⟨rfl, hB1, hB2⟩ := hB
  obtain ⟨g1, g2⟩ := jn9 hP hD isC hC rfl h2 hk hB1
  exact wk_t hown pre x suf hsplit hpass hcx h0 hlink hca hce hcv hcl (kk q9 H1 locs1 g1 g2 hS1)
theorem wk_l {own E : String} (hown : s.vm.findClass own = some m.cls) (pre : List ExceptionTableEntry) (x : ExceptionTableEntry) (suf : List ExceptionTableEntry) (hsplit : c.exceptionTable.toList = pre ++ x :: suf)
    (hpass : ∀ z ∈ pre, covers z pc = false ∨ (z.catchType ≠ 0 ∧ ∃ nm : String, (Cond.classLink own z.catchType nm).before args s = true ∧ va_Nc E nm s)) (hcx : covers x pc = true) (h0 : x.catchType ≠ 0)
    (hlink : (Cond.classLink own x.catchType E).before args s = true) (hca : va_Nw (.castable E E) s) (hP : va_P D vwCl ws H) (hD : va_D A ws) (hS : va_S A s.heap H locs) (hA : ∀ q, s.heap.size ≤ q → A q) (isC : List Nat) (hC : isC.map (fun i => ws[i]?) = wc.map some) (h2 : pl9 isC wc ws = ws)
    (hr : vx_Run p l e R s m args below meth c H locs 0 0 1 6 (F0 m pc ls st0) rest (XQl a) (XC9 D (va_A wc H.size) wc E) (va_A wc H.size))
    (kk : ∀ (q9 : Addr) (H1 : Heap) (locs1 : List Loc), va_P D vwCl ws H1 → va_D A ws → va_S A s.heap H1 locs1 → W p l e R s m args below meth c H1 locs1 1 6 Q (F0 m x.handlerPc ls [.ref q9])) : W p l e R s m args below meth c H locs 0 0 Q (F0 m pc ls st0) := by
  have hF := va_free hD hS hA isC hC
  refine vx_calll hr hS (fun q _ h => h.elim) hF (fun q _ h => hF q h) (fun E' ce q9 u t H1 locs1 ht hvm _ hB hz hk hS1 hce hcv hcl => ?_) (fun _ u t H1 locs1 _ _ hp _ _ _ _ => hp.elim)
  rw [ht] at hB
  obtain ⟨rfl, hB1, hB2⟩ := hB
  obtain ⟨g1, g2⟩ := jn9 hP hD isC hC rfl h2 hk hB1
  exact wk_t hown pre x suf hsplit hpass hcx h0 hlink hca hce hcv hcl (kk q9 H1 locs1 g1 g2 hS1)
end MYCATCH
set_option maxHeartbeats 4000000 in
set_option maxRecDepth 100000 in
theorem w_L_drops (l : Launch) (D : va_G) (cI cJ cZ : ClassId) (h0 : Nat) (ai : Nat) (pu : Nat) (pa : Nat) (ga : Nat) (sc : Nat) (hi : Nat) (gr : Nat) (me : Nat) (dp : Nat) (up : Bool) (mi : Nat) (ru : Nat) (wp : Int64) (wl : Int64) (a1 : Nat) (C : Nat → Nat) (u1 : Nat) (u2 : Nat) (u3 : Nat) (u4 : Nat) (u5 : Nat) (PK : Nat → Nat) (PL : Nat → Nat) (PS : Nat → Nat) (PN : Nat → Nat) (PM : Nat → Nat) (pn : Nat) (ki : Nat) (la : Nat) (si : Nat) (mn : Nat) (ou : Nat) (OU : Nat → Int64) (hki : ki < 20) (hla : la < 10) (hs1 : 1 ≤ si) (hs3 : si ≤ 3) (hm1 : 1 ≤ mn) (hm2 : mn ≤ 1000) (hpn : pn < 100) (sz : Nat) : vx_Met l yL_drops wsL_drops ({ frames := 3, cells := 0, slots := 0, locals := 71 } : Room) (va_Pc [.ref h0, .int (nI ki), .int (nI la), .int (nI si), .int (nI mn), .ref ou] (mPre D cI cJ cZ [(h0, .inr (5, [.ref ai, .ref pu, .ref pa, .ref ga, .ref sc, .ref hi, .ref gr, .int (nI me), .int (nI dp), .int (bI up), .int (nI mi), .int (nI ru), .long wp, .long wl])), (ai, .inr (0, [.ref a1])), (a1, .inl (cI, 600, .inl (nA C))), (pu, .inr (3, [.ref u1, .ref u2, .ref u3, .ref u4, .ref u5, .int (nI pn)])), (u1, .inl (cI, 100, .inl (nA PK))), (u2, .inl (cI, 100, .inl (nA PL))), (u3, .inl (cI, 100, .inl (nA PS))), (u4, .inl (cI, 100, .inl (nA PN))), (u5, .inl (cI, 100, .inl (nA PM))), (ou, .inl (cJ, 1, .inr (.inl OU)))] sz)) (Qi9 D (va_A [(h0, .inr (5, [.ref ai, .ref pu, .ref pa, .ref ga, .ref sc, .ref hi, .ref gr, .int (nI me), .int (nI dp), .int (bI up), .int (nI mi), .int (nI ru), .long wp, .long wl])), (ai, .inr (0, [.ref a1])), (a1, .inl (cI, 600, .inl (nA C))), (pu, .inr (3, [.ref u1, .ref u2, .ref u3, .ref u4, .ref u5, .int (nI pn)])), (u1, .inl (cI, 100, .inl (nA PK))), (u2, .inl (cI, 100, .inl (nA PL))), (u3, .inl (cI, 100, .inl (nA PS))), (u4, .inl (cI, 100, .inl (nA PN))), (u5, .inl (cI, 100, .inl (nA PM))), (ou, .inl (cJ, 1, .inr (.inl OU)))] sz) [(h0, .inr (5, [.ref ai, .ref pu, .ref pa, .ref ga, .ref sc, .ref hi, .ref gr, .int (nI me), .int (nI dp), .int (bI up), .int (nI mi), .int (nI ru), .long (wp + wtr si mn), .long wl])), (ai, .inr (0, [.ref a1])), (a1, .inl (cI, 600, .inl (nA (uN C (30 * ki + 3 * la + (si - 1)) (C (30 * ki + 3 * la + (si - 1)) + mn))))), (pu, .inr (3, [.ref u1, .ref u2, .ref u3, .ref u4, .ref u5, .int (nI (pn + 1))])), (u1, .inl (cI, 100, .inl (nA (uN PK pn ki)))), (u2, .inl (cI, 100, .inl (nA (uN PL pn la)))), (u3, .inl (cI, 100, .inl (nA (uN PS pn si)))), (u4, .inl (cI, 100, .inl (nA (uN PN pn mn)))), (u5, .inl (cI, 100, .inl (nA (uN PM pn mi)))), (ou, .inl (cJ, 1, .inr (.inl (uN OU 0 ((nI (C (30 * ki + 3 * la + (si - 1)) + mn)).toInt64)))))] (nI 0)) XN 0 0 (va_A [(h0, .inr (5, [.ref ai, .ref pu, .ref pa, .ref ga, .ref sc, .ref hi, .ref gr, .int (nI me), .int (nI dp), .int (bI up), .int (nI mi), .int (nI ru), .long wp, .long wl])), (ai, .inr (0, [.ref a1])), (a1, .inl (cI, 600, .inl (nA C))), (pu, .inr (3, [.ref u1, .ref u2, .ref u3, .ref u4, .ref u5, .int (nI pn)])), (u1, .inl (cI, 100, .inl (nA PK))), (u2, .inl (cI, 100, .inl (nA PL))), (u3, .inl (cI, 100, .inl (nA PS))), (u4, .inl (cI, 100, .inl (nA PN))), (u5, .inl (cI, 100, .inl (nA PM))), (ou, .inl (cJ, 1, .inr (.inl OU)))] sz) := by
  refine vx_ofWH (hh := [(0, 14, 17, 13), (0, 14, 21, 15), (0, 14, 25, 17)]) (cc := cL_drops) (maxL := 7) (ret := (some .int)) (by decide) rfl ?_
  intro p e s m args below meth c s₁ B hml hv
  obtain ⟨hargs, hsz, hP, hT, hD0⟩ := hv
  have hx := B.exec
  have hb := B.bytes
  have hr := B.returns
  have hts := atoms_spec (ws := wsL_drops) B.pre
  have hown : s.vm.findClass RL = some m.cls := findClass_of_methodNamed B.named
  have hlocks := B.notSynchronized
  subst hsz
  have hK := hT.1
  have hD := hD0.self (sz := s.heap.size)
  generalize hAe : va_A [(h0, .inr (5, [.ref ai, .ref pu, .ref pa, .ref ga, .ref sc, .ref hi, .ref gr, .int (nI me), .int (nI dp), .int (bI up), .int (nI mi), .int (nI ru), .long wp, .long wl])), (ai, .inr (0, [.ref a1])), (a1, .inl (cI, 600, .inl (nA C))), (pu, .inr (3, [.ref u1, .ref u2, .ref u3, .ref u4, .ref u5, .int (nI pn)])), (u1, .inl (cI, 100, .inl (nA PK))), (u2, .inl (cI, 100, .inl (nA PL))), (u3, .inl (cI, 100, .inl (nA PS))), (u4, .inl (cI, 100, .inl (nA PN))), (u5, .inl (cI, 100, .inl (nA PM))), (ou, .inl (cJ, 1, .inr (.inl OU)))] s.heap.size = A at hD ⊢
  have hA : ∀ q : Nat, s.heap.size ≤ q → A q := fun q h => by rw [← hAe]; exact Or.inr h
  have hS : va_S A s.heap s.heap [] := va_S.rf
  obtain ⟨H, hHe⟩ : ∃ H : Heap, H = s.heap := ⟨_, rfl⟩
  have hS : va_S A s.heap H [] := by rw [hHe]; exact va_S.rf
  rw [← hHe] at hP
  suffices K0 : W p l e (headSpec wsL_drops ({ frames := 3, cells := 0, slots := 0, locals := 71 } : Room)).room s m args below meth c H [] 0 0 (MQ below (Qi9 D A [(h0, .inr (5, [.ref ai, .ref pu, .ref pa, .ref ga, .ref sc, .ref hi, .ref gr, .int (nI me), .int (nI dp), .int (bI up), .int (nI mi), .int (nI ru), .long (wp + wtr si mn), .long wl])), (ai, .inr (0, [.ref a1])), (a1, .inl (cI, 600, .inl (nA (uN C (30 * ki + 3 * la + (si - 1)) (C (30 * ki + 3 * la + (si - 1)) + mn))))), (pu, .inr (3, [.ref u1, .ref u2, .ref u3, .ref u4, .ref u5, .int (nI (pn + 1))])), (u1, .inl (cI, 100, .inl (nA (uN PK pn ki)))), (u2, .inl (cI, 100, .inl (nA (uN PL pn la)))), (u3, .inl (cI, 100, .inl (nA (uN PS pn si)))), (u4, .inl (cI, 100, .inl (nA (uN PN pn mn)))), (u5, .inl (cI, 100, .inl (nA (uN PM pn mi)))), (ou, .inl (cJ, 1, .inr (.inl (uN OU 0 ((nI (C (30 * ki + 3 * la + (si - 1)) + mn)).toInt64)))))] (nI 0)) args s 0 0 A) (entryFrame m args 7) by rw [hHe] at K0; exact vx_ret K0
  refine W.eq (g2 := entryFrame m ([.ref h0, .int (nI ki), .int (nI la), .int (nI si), .int (nI mn), .ref ou] : List Value).toArray 7) (by rw [hargs]) ?_
  have hl := lv_entry ([.ref h0, .int (nI ki), .int (nI la), .int (nI si), .int (nI mn), .ref ou]) (n := 7) (Nat.le_of_ble_eq_true rfl)
  rw [lg_entry_eq]
  generalize (lg_sl ([.ref h0, .int (nI ki), .int (nI la), .int (nI si), .int (nI mn), .ref ou]) ++ List.replicate (7 - (lg_sl ([.ref h0, .int (nI ki), .int (nI la), .int (nI si), .int (nI mn), .ref ou])).length) Slot.unset).toArray = ls at hl ⊢
  have hl : lv_has ls 7 [(0, .ref h0), (1, .int (nI ki)), (2, .int (nI la)), (3, .int (nI si)), (4, .int (nI mn)), (5, .ref ou)] := hl
  generalize ([] : List Loc) = locs at hS ⊢
  refine lv_aload hx hb dL_drops_0 (lv_at hl 5 rfl) ?_
  refine lv_iconst (v := nI 0) hx hb dL_drops_2 (by decide) ?_
  refine lv_aload_n hx hb dL_drops_3 rfl (lv_at hl 0 rfl) ?_
  refine lv_iload_n hx hb dL_drops_4 rfl (lv_at hl 1 rfl) ?_
  refine lv_iload_n hx hb dL_drops_5 rfl (lv_at hl 2 rfl) ?_
  refine lv_iload_n hx hb dL_drops_6 rfl (lv_at hl 3 rfl) ?_
  refine lv_iload hx hb dL_drops_7 (lv_at hl 4 rfl) ?_
  refine cr_i (wc := [(h0, .inr (5, [.ref ai, .ref pu, .ref pa, .ref ga, .ref sc, .ref hi, .ref gr, .int (nI me), .int (nI dp), .int (bI up), .int (nI mi), .int (nI ru), .long wp, .long wl])), (ai, .inr (0, [.ref a1])), (a1, .inl (cI, 600, .inl (nA C))), (pu, .inr (3, [.ref u1, .ref u2, .ref u3, .ref u4, .ref u5, .int (nI pn)])), (u1, .inl (cI, 100, .inl (nA PK))), (u2, .inl (cI, 100, .inl (nA PL))), (u3, .inl (cI, 100, .inl (nA PS))), (u4, .inl (cI, 100, .inl (nA PN))), (u5, .inl (cI, 100, .inl (nA PM)))]) (w1 := [(h0, .inr (5, [.ref ai, .ref pu, .ref pa, .ref ga, .ref sc, .ref hi, .ref gr, .int (nI me), .int (nI dp), .int (bI up), .int (nI mi), .int (nI ru), .long (wp + wtr si mn), .long wl])), (ai, .inr (0, [.ref a1])), (a1, .inl (cI, 600, .inl (nA (uN C (30 * ki + 3 * la + (si - 1)) (C (30 * ki + 3 * la + (si - 1)) + mn))))), (pu, .inr (3, [.ref u1, .ref u2, .ref u3, .ref u4, .ref u5, .int (nI (pn + 1))])), (u1, .inl (cI, 100, .inl (nA (uN PK pn ki)))), (u2, .inl (cI, 100, .inl (nA (uN PL pn la)))), (u3, .inl (cI, 100, .inl (nA (uN PS pn si)))), (u4, .inl (cI, 100, .inl (nA (uN PN pn mn)))), (u5, .inl (cI, 100, .inl (nA (uN PM pn mi))))]) (ws2 := [(h0, .inr (5, [.ref ai, .ref pu, .ref pa, .ref ga, .ref sc, .ref hi, .ref gr, .int (nI me), .int (nI dp), .int (bI up), .int (nI mi), .int (nI ru), .long (wp + wtr si mn), .long wl])), (ai, .inr (0, [.ref a1])), (a1, .inl (cI, 600, .inl (nA (uN C (30 * ki + 3 * la + (si - 1)) (C (30 * ki + 3 * la + (si - 1)) + mn))))), (pu, .inr (3, [.ref u1, .ref u2, .ref u3, .ref u4, .ref u5, .int (nI (pn + 1))])), (u1, .inl (cI, 100, .inl (nA (uN PK pn ki)))), (u2, .inl (cI, 100, .inl (nA (uN PL pn la)))), (u3, .inl (cI, 100, .inl (nA (uN PS pn si)))), (u4, .inl (cI, 100, .inl (nA (uN PN pn mn)))), (u5, .inl (cI, 100, .inl (nA (uN PM pn mi)))), (ou, .inl (cJ, 1, .inr (.inl OU)))]) hP hD hS hA [0, 1, 2, 3, 4, 5, 6, 7, 8] rfl rfl rfl (va_runV (As := [.int (nI ki), .int (nI la), .int (nI si), .int (nI mn)]) (rest := [.int (nI 0), .ref ou]) ⟨hx, hb, hml, hown, hts⟩ (c_X5_drops l D cI cJ cZ h0 ai pu pa ga sc hi gr me dp up mi ru wp wl a1 C u1 u2 u3 u4 u5 PK PL PS PN PM pn ki la si mn (by assumption) (by assumption) (by assumption) (by assumption) (by assumption) (by assumption) (by assumption) H.size) (cwV 4 hts gL_drops_X5_drops rfl rfl rfl (by decide +kernel) ⟨Nat.le_of_ble_eq_true rfl, Nat.le_of_ble_eq_true rfl⟩) (pvV hT hP hD [0, 1, 2, 3, 4, 5, 6, 7, 8] rfl rfl 0 rfl rfl) rfl rfl hl.1 rfl (lv_room (Nat.le_of_ble_eq_true rfl)) dL_drops_9 ⟨Nat.zero_le _, Nat.zero_le _⟩) (fun H locs hP hD hS => ?_)
  refine lv_i2l (v := (nI (C (30 * ki + 3 * la + (si - 1)) + mn)).toInt64) hx hb dL_drops_12 rfl ?_
  refine ast_L (x := (nI (C (30 * ki + 3 * la + (si - 1)) + mn)).toInt64) hx hb hK hP hD hS 9 1 rfl rfl 0 rfl (by omega) (Nat.le_of_ble_eq_true rfl) dL_drops_13 (fun H locs hP hD hS => ?_)
  have hP : va_P D vwCl [(h0, .inr (5, [.ref ai, .ref pu, .ref pa, .ref ga, .ref sc, .ref hi, .ref gr, .int (nI me), .int (nI dp), .int (bI up), .int (nI mi), .int (nI ru), .long (wp + wtr si mn), .long wl])), (ai, .inr (0, [.ref a1])), (a1, .inl (cI, 600, .inl (nA (uN C (30 * ki + 3 * la + (si - 1)) (C (30 * ki + 3 * la + (si - 1)) + mn))))), (pu, .inr (3, [.ref u1, .ref u2, .ref u3, .ref u4, .ref u5, .int (nI (pn + 1))])), (u1, .inl (cI, 100, .inl (nA (uN PK pn ki)))), (u2, .inl (cI, 100, .inl (nA (uN PL pn la)))), (u3, .inl (cI, 100, .inl (nA (uN PS pn si)))), (u4, .inl (cI, 100, .inl (nA (uN PN pn mn)))), (u5, .inl (cI, 100, .inl (nA (uN PM pn mi)))), (ou, .inl (cJ, 1, .inr (.inl (uN OU 0 ((nI (C (30 * ki + 3 * la + (si - 1)) + mn)).toInt64)))))] H := hP
  have hD : va_D A [(h0, .inr (5, [.ref ai, .ref pu, .ref pa, .ref ga, .ref sc, .ref hi, .ref gr, .int (nI me), .int (nI dp), .int (bI up), .int (nI mi), .int (nI ru), .long (wp + wtr si mn), .long wl])), (ai, .inr (0, [.ref a1])), (a1, .inl (cI, 600, .inl (nA (uN C (30 * ki + 3 * la + (si - 1)) (C (30 * ki + 3 * la + (si - 1)) + mn))))), (pu, .inr (3, [.ref u1, .ref u2, .ref u3, .ref u4, .ref u5, .int (nI (pn + 1))])), (u1, .inl (cI, 100, .inl (nA (uN PK pn ki)))), (u2, .inl (cI, 100, .inl (nA (uN PL pn la)))), (u3, .inl (cI, 100, .inl (nA (uN PS pn si)))), (u4, .inl (cI, 100, .inl (nA (uN PN pn mn)))), (u5, .inl (cI, 100, .inl (nA (uN PM pn mi)))), (ou, .inl (cJ, 1, .inr (.inl (uN OU 0 ((nI (C (30 * ki + 3 * la + (si - 1)) + mn)).toInt64)))))] := hD
  refine lv_goto (tgt := 29) hx hb dL_drops_14 (by decide) ?_
  refine lv_iconst (v := nI 0) hx hb dL_drops_29 (by decide) ?_
  exact fin_i hx hb hr hlocks hP hD hS (rfl) dL_drops_30
set_option maxHeartbeats 4000000 in
set_option maxRecDepth 100000 in
theorem w_L_melt (l : Launch) (D : va_G) (cI cJ cZ : ClassId) (h0 : Nat) (ai : Nat) (pu : Nat) (pa : Nat) (ga : Nat) (sc : Nat) (hi : Nat) (gr : Nat) (me : Nat) (dp : Nat) (up : Bool) (mi : Nat) (ru : Nat) (wp : Int64) (wl : Int64) (la : Nat) (ou : Nat) (OU : Nat → Int64) (hla : la < 10) (sz : Nat) : vx_Met l yL_melt wsL_melt ({ frames := 2, cells := 0, slots := 0, locals := 42 } : Room) (va_Pc [.ref h0, .int (nI la), .ref ou] (mPre D cI cJ cZ [(h0, .inr (5, [.ref ai, .ref pu, .ref pa, .ref ga, .ref sc, .ref hi, .ref gr, .int (nI me), .int (nI dp), .int (bI up), .int (nI mi), .int (nI ru), .long wp, .long wl])), (ou, .inl (cJ, 1, .inr (.inl OU)))] sz)) (Qi9 D (va_A [(h0, .inr (5, [.ref ai, .ref pu, .ref pa, .ref ga, .ref sc, .ref hi, .ref gr, .int (nI me), .int (nI dp), .int (bI up), .int (nI mi), .int (nI ru), .long wp, .long wl])), (ou, .inl (cJ, 1, .inr (.inl OU)))] sz) [(h0, .inr (5, [.ref ai, .ref pu, .ref pa, .ref ga, .ref sc, .ref hi, .ref gr, .int (nI la), .int (nI dp), .int (bI up), .int (nI mi), .int (nI ru), .long wp, .long wl])), (ou, .inl (cJ, 1, .inr (.inl (uN OU 0 ((nI me).toInt64)))))] (nI 0)) XN 0 0 (va_A [(h0, .inr (5, [.ref ai, .ref pu, .ref pa, .ref ga, .ref sc, .ref hi, .ref gr, .int (nI me), .int (nI dp), .int (bI up), .int (nI mi), .int (nI ru), .long wp, .long wl])), (ou, .inl (cJ, 1, .inr (.inl OU)))] sz) := by
  refine vx_ofWH (hh := [(0, 9, 12, 13)]) (cc := cL_melt) (maxL := 4) (ret := (some .int)) (by decide) rfl ?_
  intro p e s m args below meth c s₁ B hml hv
  obtain ⟨hargs, hsz, hP, hT, hD0⟩ := hv
  have hx := B.exec
  have hb := B.bytes
  have hr := B.returns
  have hts := atoms_spec (ws := wsL_melt) B.pre
  have hown : s.vm.findClass RL = some m.cls := findClass_of_methodNamed B.named
  have hlocks := B.notSynchronized
  subst hsz
  have hK := hT.1
  have hD := hD0.self (sz := s.heap.size)
  generalize hAe : va_A [(h0, .inr (5, [.ref ai, .ref pu, .ref pa, .ref ga, .ref sc, .ref hi, .ref gr, .int (nI me), .int (nI dp), .int (bI up), .int (nI mi), .int (nI ru), .long wp, .long wl])), (ou, .inl (cJ, 1, .inr (.inl OU)))] s.heap.size = A at hD ⊢
  have hA : ∀ q : Nat, s.heap.size ≤ q → A q := fun q h => by rw [← hAe]; exact Or.inr h
  have hS : va_S A s.heap s.heap [] := va_S.rf
  obtain ⟨H, hHe⟩ : ∃ H : Heap, H = s.heap := ⟨_, rfl⟩
  have hS : va_S A s.heap H [] := by rw [hHe]; exact va_S.rf
  rw [← hHe] at hP
  suffices K0 : W p l e (headSpec wsL_melt ({ frames := 2, cells := 0, slots := 0, locals := 42 } : Room)).room s m args below meth c H [] 0 0 (MQ below (Qi9 D A [(h0, .inr (5, [.ref ai, .ref pu, .ref pa, .ref ga, .ref sc, .ref hi, .ref gr, .int (nI la), .int (nI dp), .int (bI up), .int (nI mi), .int (nI ru), .long wp, .long wl])), (ou, .inl (cJ, 1, .inr (.inl (uN OU 0 ((nI me).toInt64)))))] (nI 0)) args s 0 0 A) (entryFrame m args 4) by rw [hHe] at K0; exact vx_ret K0
  refine W.eq (g2 := entryFrame m ([.ref h0, .int (nI la), .ref ou] : List Value).toArray 4) (by rw [hargs]) ?_
  have hl := lv_entry ([.ref h0, .int (nI la), .ref ou]) (n := 4) (Nat.le_of_ble_eq_true rfl)
  rw [lg_entry_eq]
  generalize (lg_sl ([.ref h0, .int (nI la), .ref ou]) ++ List.replicate (4 - (lg_sl ([.ref h0, .int (nI la), .ref ou])).length) Slot.unset).toArray = ls at hl ⊢
  have hl : lv_has ls 4 [(0, .ref h0), (1, .int (nI la)), (2, .ref ou)] := hl
  generalize ([] : List Loc) = locs at hS ⊢
  refine lv_aload_n hx hb dL_melt_0 rfl (lv_at hl 2 rfl) ?_
  refine lv_iconst (v := nI 0) hx hb dL_melt_1 (by decide) ?_
  refine lv_aload_n hx hb dL_melt_2 rfl (lv_at hl 0 rfl) ?_
  refine lv_iload_n hx hb dL_melt_3 rfl (lv_at hl 1 rfl) ?_
  refine cr_i (wc := [(h0, .inr (5, [.ref ai, .ref pu, .ref pa, .ref ga, .ref sc, .ref hi, .ref gr, .int (nI me), .int (nI dp), .int (bI up), .int (nI mi), .int (nI ru), .long wp, .long wl]))]) (w1 := [(h0, .inr (5, [.ref ai, .ref pu, .ref pa, .ref ga, .ref sc, .ref hi, .ref gr, .int (nI la), .int (nI dp), .int (bI up), .int (nI mi), .int (nI ru), .long wp, .long wl]))]) (ws2 := [(h0, .inr (5, [.ref ai, .ref pu, .ref pa, .ref ga, .ref sc, .ref hi, .ref gr, .int (nI la), .int (nI dp), .int (bI up), .int (nI mi), .int (nI ru), .long wp, .long wl])), (ou, .inl (cJ, 1, .inr (.inl OU)))]) hP hD hS hA [0] rfl rfl rfl (va_runV (As := [.int (nI la)]) (rest := [.int (nI 0), .ref ou]) ⟨hx, hb, hml, hown, hts⟩ (c_X5_melt l D cI cJ cZ h0 ai pu pa ga sc hi gr me dp up mi ru wp wl la (by assumption) H.size) (cwV 1 hts gL_melt_X5_melt rfl rfl rfl (by decide +kernel) ⟨Nat.le_of_ble_eq_true rfl, Nat.le_of_ble_eq_true rfl⟩) (pvV hT hP hD [0] rfl rfl 0 rfl rfl) rfl rfl hl.1 rfl (lv_room (Nat.le_of_ble_eq_true rfl)) dL_melt_4 ⟨Nat.zero_le _, Nat.zero_le _⟩) (fun H locs hP hD hS => ?_)
  refine lv_i2l (v := (nI me).toInt64) hx hb dL_melt_7 rfl ?_
  refine ast_L (x := (nI me).toInt64) hx hb hK hP hD hS 1 1 rfl rfl 0 rfl (by omega) (Nat.le_of_ble_eq_true rfl) dL_melt_8 (fun H locs hP hD hS => ?_)
  have hP : va_P D vwCl [(h0, .inr (5, [.ref ai, .ref pu, .ref pa, .ref ga, .ref sc, .ref hi, .ref gr, .int (nI la), .int (nI dp), .int (bI up), .int (nI mi), .int (nI ru), .long wp, .long wl])), (ou, .inl (cJ, 1, .inr (.inl (uN OU 0 ((nI me).toInt64)))))] H := hP
  have hD : va_D A [(h0, .inr (5, [.ref ai, .ref pu, .ref pa, .ref ga, .ref sc, .ref hi, .ref gr, .int (nI la), .int (nI dp), .int (bI up), .int (nI mi), .int (nI ru), .long wp, .long wl])), (ou, .inl (cJ, 1, .inr (.inl (uN OU 0 ((nI me).toInt64)))))] := hD
  refine lv_goto (tgt := 15) hx hb dL_melt_9 (by decide) ?_
  refine lv_iconst (v := nI 0) hx hb dL_melt_15 (by decide) ?_
  exact fin_i hx hb hr hlocks hP hD hS (rfl) dL_melt_16
set_option maxHeartbeats 4000000 in
set_option maxRecDepth 100000 in
theorem w_L_hill (l : Launch) (D : va_G) (cI cJ cZ : ClassId) (h0 : Nat) (ai : Nat) (pu : Nat) (pa : Nat) (ga : Nat) (sc : Nat) (hi : Nat) (gr : Nat) (me : Nat) (dp : Nat) (up : Bool) (mi : Nat) (ru : Nat) (wp : Int64) (wl : Int64) (HI : Nat → Nat) (ki : Nat) (hh : Nat) (ou : Nat) (OU : Nat → Int64) (hki : ki < 20) (hhh : hh ≤ 9) (sz : Nat) : vx_Met l yL_hill wsL_hill ({ frames := 2, cells := 0, slots := 0, locals := 45 } : Room) (va_Pc [.ref h0, .int (nI ki), .int (nI hh), .ref ou] (mPre D cI cJ cZ [(h0, .inr (5, [.ref ai, .ref pu, .ref pa, .ref ga, .ref sc, .ref hi, .ref gr, .int (nI me), .int (nI dp), .int (bI up), .int (nI mi), .int (nI ru), .long wp, .long wl])), (hi, .inl (cI, 20, .inl (nA HI))), (ou, .inl (cJ, 1, .inr (.inl OU)))] sz)) (Qi9 D (va_A [(h0, .inr (5, [.ref ai, .ref pu, .ref pa, .ref ga, .ref sc, .ref hi, .ref gr, .int (nI me), .int (nI dp), .int (bI up), .int (nI mi), .int (nI ru), .long wp, .long wl])), (hi, .inl (cI, 20, .inl (nA HI))), (ou, .inl (cJ, 1, .inr (.inl OU)))] sz) [(h0, .inr (5, [.ref ai, .ref pu, .ref pa, .ref ga, .ref sc, .ref hi, .ref gr, .int (nI me), .int (nI dp), .int (bI up), .int (nI mi), .int (nI ru), .long wp, .long wl])), (hi, .inl (cI, 20, .inl (nA (uN HI ki hh)))), (ou, .inl (cJ, 1, .inr (.inl (uN OU 0 ((nI (HI ki)).toInt64)))))] (nI 0)) XN 0 0 (va_A [(h0, .inr (5, [.ref ai, .ref pu, .ref pa, .ref ga, .ref sc, .ref hi, .ref gr, .int (nI me), .int (nI dp), .int (bI up), .int (nI mi), .int (nI ru), .long wp, .long wl])), (hi, .inl (cI, 20, .inl (nA HI))), (ou, .inl (cJ, 1, .inr (.inl OU)))] sz) := by
  refine vx_ofWH (hh := [(0, 10, 13, 13), (0, 10, 17, 15)]) (cc := cL_hill) (maxL := 5) (ret := (some .int)) (by decide) rfl ?_
  intro p e s m args below meth c s₁ B hml hv
  obtain ⟨hargs, hsz, hP, hT, hD0⟩ := hv
  have hx := B.exec
  have hb := B.bytes
  have hr := B.returns
  have hts := atoms_spec (ws := wsL_hill) B.pre
  have hown : s.vm.findClass RL = some m.cls := findClass_of_methodNamed B.named
  have hlocks := B.notSynchronized
  subst hsz
  have hK := hT.1
  have hD := hD0.self (sz := s.heap.size)
  generalize hAe : va_A [(h0, .inr (5, [.ref ai, .ref pu, .ref pa, .ref ga, .ref sc, .ref hi, .ref gr, .int (nI me), .int (nI dp), .int (bI up), .int (nI mi), .int (nI ru), .long wp, .long wl])), (hi, .inl (cI, 20, .inl (nA HI))), (ou, .inl (cJ, 1, .inr (.inl OU)))] s.heap.size = A at hD ⊢
  have hA : ∀ q : Nat, s.heap.size ≤ q → A q := fun q h => by rw [← hAe]; exact Or.inr h
  have hS : va_S A s.heap s.heap [] := va_S.rf
  obtain ⟨H, hHe⟩ : ∃ H : Heap, H = s.heap := ⟨_, rfl⟩
  have hS : va_S A s.heap H [] := by rw [hHe]; exact va_S.rf
  rw [← hHe] at hP
  suffices K0 : W p l e (headSpec wsL_hill ({ frames := 2, cells := 0, slots := 0, locals := 45 } : Room)).room s m args below meth c H [] 0 0 (MQ below (Qi9 D A [(h0, .inr (5, [.ref ai, .ref pu, .ref pa, .ref ga, .ref sc, .ref hi, .ref gr, .int (nI me), .int (nI dp), .int (bI up), .int (nI mi), .int (nI ru), .long wp, .long wl])), (hi, .inl (cI, 20, .inl (nA (uN HI ki hh)))), (ou, .inl (cJ, 1, .inr (.inl (uN OU 0 ((nI (HI ki)).toInt64)))))] (nI 0)) args s 0 0 A) (entryFrame m args 5) by rw [hHe] at K0; exact vx_ret K0
  refine W.eq (g2 := entryFrame m ([.ref h0, .int (nI ki), .int (nI hh), .ref ou] : List Value).toArray 5) (by rw [hargs]) ?_
  have hl := lv_entry ([.ref h0, .int (nI ki), .int (nI hh), .ref ou]) (n := 5) (Nat.le_of_ble_eq_true rfl)
  rw [lg_entry_eq]
  generalize (lg_sl ([.ref h0, .int (nI ki), .int (nI hh), .ref ou]) ++ List.replicate (5 - (lg_sl ([.ref h0, .int (nI ki), .int (nI hh), .ref ou])).length) Slot.unset).toArray = ls at hl ⊢
  have hl : lv_has ls 5 [(0, .ref h0), (1, .int (nI ki)), (2, .int (nI hh)), (3, .ref ou)] := hl
  generalize ([] : List Loc) = locs at hS ⊢
  refine lv_aload_n hx hb dL_hill_0 rfl (lv_at hl 3 rfl) ?_
  refine lv_iconst (v := nI 0) hx hb dL_hill_1 (by decide) ?_
  refine lv_aload_n hx hb dL_hill_2 rfl (lv_at hl 0 rfl) ?_
  refine lv_iload_n hx hb dL_hill_3 rfl (lv_at hl 1 rfl) ?_
  refine lv_iload_n hx hb dL_hill_4 rfl (lv_at hl 2 rfl) ?_
  refine cr_i (wc := [(h0, .inr (5, [.ref ai, .ref pu, .ref pa, .ref ga, .ref sc, .ref hi, .ref gr, .int (nI me), .int (nI dp), .int (bI up), .int (nI mi), .int (nI ru), .long wp, .long wl])), (hi, .inl (cI, 20, .inl (nA HI)))]) (w1 := [(h0, .inr (5, [.ref ai, .ref pu, .ref pa, .ref ga, .ref sc, .ref hi, .ref gr, .int (nI me), .int (nI dp), .int (bI up), .int (nI mi), .int (nI ru), .long wp, .long wl])), (hi, .inl (cI, 20, .inl (nA (uN HI ki hh))))]) (ws2 := [(h0, .inr (5, [.ref ai, .ref pu, .ref pa, .ref ga, .ref sc, .ref hi, .ref gr, .int (nI me), .int (nI dp), .int (bI up), .int (nI mi), .int (nI ru), .long wp, .long wl])), (hi, .inl (cI, 20, .inl (nA (uN HI ki hh)))), (ou, .inl (cJ, 1, .inr (.inl OU)))]) hP hD hS hA [0, 1] rfl rfl rfl (va_runV (As := [.int (nI ki), .int (nI hh)]) (rest := [.int (nI 0), .ref ou]) ⟨hx, hb, hml, hown, hts⟩ (c_X5_hill l D cI cJ cZ h0 ai pu pa ga sc hi gr me dp up mi ru wp wl HI ki hh (by assumption) (by assumption) H.size) (cwV 2 hts gL_hill_X5_hill rfl rfl rfl (by decide +kernel) ⟨Nat.le_of_ble_eq_true rfl, Nat.le_of_ble_eq_true rfl⟩) (pvV hT hP hD [0, 1] rfl rfl 0 rfl rfl) rfl rfl hl.1 rfl (lv_room (Nat.le_of_ble_eq_true rfl)) dL_hill_5 ⟨Nat.zero_le _, Nat.zero_le _⟩) (fun H locs hP hD hS => ?_)
  refine lv_i2l (v := (nI (HI ki)).toInt64) hx hb dL_hill_8 rfl ?_
  refine ast_L (x := (nI (HI ki)).toInt64) hx hb hK hP hD hS 2 1 rfl rfl 0 rfl (by omega) (Nat.le_of_ble_eq_true rfl) dL_hill_9 (fun H locs hP hD hS => ?_)
  have hP : va_P D vwCl [(h0, .inr (5, [.ref ai, .ref pu, .ref pa, .ref ga, .ref sc, .ref hi, .ref gr, .int (nI me), .int (nI dp), .int (bI up), .int (nI mi), .int (nI ru), .long wp, .long wl])), (hi, .inl (cI, 20, .inl (nA (uN HI ki hh)))), (ou, .inl (cJ, 1, .inr (.inl (uN OU 0 ((nI (HI ki)).toInt64)))))] H := hP
  have hD : va_D A [(h0, .inr (5, [.ref ai, .ref pu, .ref pa, .ref ga, .ref sc, .ref hi, .ref gr, .int (nI me), .int (nI dp), .int (bI up), .int (nI mi), .int (nI ru), .long wp, .long wl])), (hi, .inl (cI, 20, .inl (nA (uN HI ki hh)))), (ou, .inl (cJ, 1, .inr (.inl (uN OU 0 ((nI (HI ki)).toInt64)))))] := hD
  refine lv_goto (tgt := 21) hx hb dL_hill_10 (by decide) ?_
  refine lv_iconst (v := nI 0) hx hb dL_hill_21 (by decide) ?_
  exact fin_i hx hb hr hlocks hP hD hS (rfl) dL_hill_22
set_option maxHeartbeats 4000000 in
set_option maxRecDepth 100000 in
theorem w_L_drift (l : Launch) (D : va_G) (cI cJ cZ : ClassId) (h0 : Nat) (ai : Nat) (pu : Nat) (pa : Nat) (ga : Nat) (sc : Nat) (hi : Nat) (gr : Nat) (me : Nat) (dp : Nat) (up : Bool) (mi : Nat) (ru : Nat) (wp : Int64) (wl : Int64) (pp : Nat) (bb : Bool) (ou : Nat) (OU : Nat → Int64) (hpp : pp ≤ 60) (sz : Nat) : vx_Met l yL_drift wsL_drift ({ frames := 2, cells := 0, slots := 0, locals := 45 } : Room) (va_Pc [.ref h0, .int (nI pp), .int (bI bb), .ref ou] (mPre D cI cJ cZ [(h0, .inr (5, [.ref ai, .ref pu, .ref pa, .ref ga, .ref sc, .ref hi, .ref gr, .int (nI me), .int (nI dp), .int (bI up), .int (nI mi), .int (nI ru), .long wp, .long wl])), (ou, .inl (cJ, 1, .inr (.inl OU)))] sz)) (Qi9 D (va_A [(h0, .inr (5, [.ref ai, .ref pu, .ref pa, .ref ga, .ref sc, .ref hi, .ref gr, .int (nI me), .int (nI dp), .int (bI up), .int (nI mi), .int (nI ru), .long wp, .long wl])), (ou, .inl (cJ, 1, .inr (.inl OU)))] sz) [(h0, .inr (5, [.ref ai, .ref pu, .ref pa, .ref ga, .ref sc, .ref hi, .ref gr, .int (nI me), .int (nI pp), .int (bI bb), .int (nI mi), .int (nI ru), .long wp, .long wl])), (ou, .inl (cJ, 1, .inr (.inl (uN OU 0 ((nI dp).toInt64)))))] (nI 0)) XN 0 0 (va_A [(h0, .inr (5, [.ref ai, .ref pu, .ref pa, .ref ga, .ref sc, .ref hi, .ref gr, .int (nI me), .int (nI dp), .int (bI up), .int (nI mi), .int (nI ru), .long wp, .long wl])), (ou, .inl (cJ, 1, .inr (.inl OU)))] sz) := by
  refine vx_ofWH (hh := [(0, 10, 13, 15)]) (cc := cL_drift) (maxL := 5) (ret := (some .int)) (by decide) rfl ?_
  intro p e s m args below meth c s₁ B hml hv
  obtain ⟨hargs, hsz, hP, hT, hD0⟩ := hv
  have hx := B.exec
  have hb := B.bytes
  have hr := B.returns
  have hts := atoms_spec (ws := wsL_drift) B.pre
  have hown : s.vm.findClass RL = some m.cls := findClass_of_methodNamed B.named
  have hlocks := B.notSynchronized
  subst hsz
  have hK := hT.1
  have hD := hD0.self (sz := s.heap.size)
  generalize hAe : va_A [(h0, .inr (5, [.ref ai, .ref pu, .ref pa, .ref ga, .ref sc, .ref hi, .ref gr, .int (nI me), .int (nI dp), .int (bI up), .int (nI mi), .int (nI ru), .long wp, .long wl])), (ou, .inl (cJ, 1, .inr (.inl OU)))] s.heap.size = A at hD ⊢
  have hA : ∀ q : Nat, s.heap.size ≤ q → A q := fun q h => by rw [← hAe]; exact Or.inr h
  have hS : va_S A s.heap s.heap [] := va_S.rf
  obtain ⟨H, hHe⟩ : ∃ H : Heap, H = s.heap := ⟨_, rfl⟩
  have hS : va_S A s.heap H [] := by rw [hHe]; exact va_S.rf
  rw [← hHe] at hP
  suffices K0 : W p l e (headSpec wsL_drift ({ frames := 2, cells := 0, slots := 0, locals := 45 } : Room)).room s m args below meth c H [] 0 0 (MQ below (Qi9 D A [(h0, .inr (5, [.ref ai, .ref pu, .ref pa, .ref ga, .ref sc, .ref hi, .ref gr, .int (nI me), .int (nI pp), .int (bI bb), .int (nI mi), .int (nI ru), .long wp, .long wl])), (ou, .inl (cJ, 1, .inr (.inl (uN OU 0 ((nI dp).toInt64)))))] (nI 0)) args s 0 0 A) (entryFrame m args 5) by rw [hHe] at K0; exact vx_ret K0
  refine W.eq (g2 := entryFrame m ([.ref h0, .int (nI pp), .int (bI bb), .ref ou] : List Value).toArray 5) (by rw [hargs]) ?_
  have hl := lv_entry ([.ref h0, .int (nI pp), .int (bI bb), .ref ou]) (n := 5) (Nat.le_of_ble_eq_true rfl)
  rw [lg_entry_eq]
  generalize (lg_sl ([.ref h0, .int (nI pp), .int (bI bb), .ref ou]) ++ List.replicate (5 - (lg_sl ([.ref h0, .int (nI pp), .int (bI bb), .ref ou])).length) Slot.unset).toArray = ls at hl ⊢
  have hl : lv_has ls 5 [(0, .ref h0), (1, .int (nI pp)), (2, .int (bI bb)), (3, .ref ou)] := hl
  generalize ([] : List Loc) = locs at hS ⊢
  refine lv_aload_n hx hb dL_drift_0 rfl (lv_at hl 3 rfl) ?_
  refine lv_iconst (v := nI 0) hx hb dL_drift_1 (by decide) ?_
  refine lv_aload_n hx hb dL_drift_2 rfl (lv_at hl 0 rfl) ?_
  refine lv_iload_n hx hb dL_drift_3 rfl (lv_at hl 1 rfl) ?_
  refine lv_iload_n hx hb dL_drift_4 rfl (lv_at hl 2 rfl) ?_
  refine cr_i (wc := [(h0, .inr (5, [.ref ai, .ref pu, .ref pa, .ref ga, .ref sc, .ref hi, .ref gr, .int (nI me), .int (nI dp), .int (bI up), .int (nI mi), .int (nI ru), .long wp, .long wl]))]) (w1 := [(h0, .inr (5, [.ref ai, .ref pu, .ref pa, .ref ga, .ref sc, .ref hi, .ref gr, .int (nI me), .int (nI pp), .int (bI bb), .int (nI mi), .int (nI ru), .long wp, .long wl]))]) (ws2 := [(h0, .inr (5, [.ref ai, .ref pu, .ref pa, .ref ga, .ref sc, .ref hi, .ref gr, .int (nI me), .int (nI pp), .int (bI bb), .int (nI mi), .int (nI ru), .long wp, .long wl])), (ou, .inl (cJ, 1, .inr (.inl OU)))]) hP hD hS hA [0] rfl rfl rfl (va_runV (As := [.int (nI pp), .int (bI bb)]) (rest := [.int (nI 0), .ref ou]) ⟨hx, hb, hml, hown, hts⟩ (c_X5_drift l D cI cJ cZ h0 ai pu pa ga sc hi gr me dp up mi ru wp wl pp bb (by assumption) H.size) (cwV 2 hts gL_drift_X5_drift rfl rfl rfl (by decide +kernel) ⟨Nat.le_of_ble_eq_true rfl, Nat.le_of_ble_eq_true rfl⟩) (pvV hT hP hD [0] rfl rfl 0 rfl rfl) rfl rfl hl.1 rfl (lv_room (Nat.le_of_ble_eq_true rfl)) dL_drift_5 ⟨Nat.zero_le _, Nat.zero_le _⟩) (fun H locs hP hD hS => ?_)
  refine lv_i2l (v := (nI dp).toInt64) hx hb dL_drift_8 rfl ?_
  refine ast_L (x := (nI dp).toInt64) hx hb hK hP hD hS 1 1 rfl rfl 0 rfl (by omega) (Nat.le_of_ble_eq_true rfl) dL_drift_9 (fun H locs hP hD hS => ?_)
  have hP : va_P D vwCl [(h0, .inr (5, [.ref ai, .ref pu, .ref pa, .ref ga, .ref sc, .ref hi, .ref gr, .int (nI me), .int (nI pp), .int (bI bb), .int (nI mi), .int (nI ru), .long wp, .long wl])), (ou, .inl (cJ, 1, .inr (.inl (uN OU 0 ((nI dp).toInt64)))))] H := hP
  have hD : va_D A [(h0, .inr (5, [.ref ai, .ref pu, .ref pa, .ref ga, .ref sc, .ref hi, .ref gr, .int (nI me), .int (nI pp), .int (bI bb), .int (nI mi), .int (nI ru), .long wp, .long wl])), (ou, .inl (cJ, 1, .inr (.inl (uN OU 0 ((nI dp).toInt64)))))] := hD
  refine lv_goto (tgt := 17) hx hb dL_drift_10 (by decide) ?_
  refine lv_iconst (v := nI 0) hx hb dL_drift_17 (by decide) ?_
  exact fin_i hx hb hr hlocks hP hD hS (rfl) dL_drift_18
set_option maxHeartbeats 4000000 in
set_option maxRecDepth 100000 in
theorem w_L_gauge (l : Launch) (D : va_G) (cI cJ cZ : ClassId) (h0 : Nat) (ai : Nat) (pu : Nat) (pa : Nat) (ga : Nat) (sc : Nat) (hi : Nat) (gr : Nat) (me : Nat) (dp : Nat) (up : Bool) (mi : Nat) (ru : Nat) (wp : Int64) (wl : Int64) (g1 : Nat) (g2 : Nat) (g3 : Nat) (UP : Nat → Bool) (CL : Nat → Bool) (CO : Nat → Int64) (ki : Nat) (bb : Bool) (ou : Nat) (OU : Nat → Int64) (hki : ki < 20) (sz : Nat) : vx_Met l yL_gauge wsL_gauge ({ frames := 3, cells := 0, slots := 0, locals := 65 } : Room) (va_Pc [.ref h0, .int (nI ki), .int (bI bb), .ref ou] (mPre D cI cJ cZ [(h0, .inr (5, [.ref ai, .ref pu, .ref pa, .ref ga, .ref sc, .ref hi, .ref gr, .int (nI me), .int (nI dp), .int (bI up), .int (nI mi), .int (nI ru), .long wp, .long wl])), (ga, .inr (1, [.ref g1, .ref g2, .ref g3])), (g1, .inl (cZ, 20, .inl (bA UP))), (g2, .inl (cZ, 20, .inl (bA CL))), (g3, .inl (cJ, 20, .inr (.inl CO))), (ou, .inl (cJ, 1, .inr (.inl OU)))] sz)) (Qi9 D (va_A [(h0, .inr (5, [.ref ai, .ref pu, .ref pa, .ref ga, .ref sc, .ref hi, .ref gr, .int (nI me), .int (nI dp), .int (bI up), .int (nI mi), .int (nI ru), .long wp, .long wl])), (ga, .inr (1, [.ref g1, .ref g2, .ref g3])), (g1, .inl (cZ, 20, .inl (bA UP))), (g2, .inl (cZ, 20, .inl (bA CL))), (g3, .inl (cJ, 20, .inr (.inl CO))), (ou, .inl (cJ, 1, .inr (.inl OU)))] sz) [(h0, .inr (5, [.ref ai, .ref pu, .ref pa, .ref ga, .ref sc, .ref hi, .ref gr, .int (nI me), .int (nI dp), .int (bI up), .int (nI mi), .int (nI ru), .long wp, .long wl])), (ga, .inr (1, [.ref g1, .ref g2, .ref g3])), (g1, .inl (cZ, 20, .inl (bA (if UP ki = bb then UP else uN UP ki bb)))), (g2, .inl (cZ, 20, .inl (bA (if UP ki = bb then CL else uN CL ki false)))), (g3, .inl (cJ, 20, .inr (.inl (if UP ki = bb then CO else uN CO ki 0)))), (ou, .inl (cJ, 1, .inr (.inl (uN OU 0 (if UP ki = true then 1 else 0)))))] (nI 0)) XN 0 0 (va_A [(h0, .inr (5, [.ref ai, .ref pu, .ref pa, .ref ga, .ref sc, .ref hi, .ref gr, .int (nI me), .int (nI dp), .int (bI up), .int (nI mi), .int (nI ru), .long wp, .long wl])), (ga, .inr (1, [.ref g1, .ref g2, .ref g3])), (g1, .inl (cZ, 20, .inl (bA UP))), (g2, .inl (cZ, 20, .inl (bA CL))), (g3, .inl (cJ, 20, .inr (.inl CO))), (ou, .inl (cJ, 1, .inr (.inl OU)))] sz) := by
  refine vx_ofWH (hh := [(0, 17, 20, 13)]) (cc := cL_gauge) (maxL := 5) (ret := (some .int)) (by decide) rfl ?_
  intro p e s m args below meth c s₁ B hml hv
  obtain ⟨hargs, hsz, hP, hT, hD0⟩ := hv
  have hx := B.exec
  have hb := B.bytes
  have hr := B.returns
  have hts := atoms_spec (ws := wsL_gauge) B.pre
  have hown : s.vm.findClass RL = some m.cls := findClass_of_methodNamed B.named
  have hlocks := B.notSynchronized
  subst hsz
  have hK := hT.1
  have hD := hD0.self (sz := s.heap.size)
  generalize hAe : va_A [(h0, .inr (5, [.ref ai, .ref pu, .ref pa, .ref ga, .ref sc, .ref hi, .ref gr, .int (nI me), .int (nI dp), .int (bI up), .int (nI mi), .int (nI ru), .long wp, .long wl])), (ga, .inr (1, [.ref g1, .ref g2, .ref g3])), (g1, .inl (cZ, 20, .inl (bA UP))), (g2, .inl (cZ, 20, .inl (bA CL))), (g3, .inl (cJ, 20, .inr (.inl CO))), (ou, .inl (cJ, 1, .inr (.inl OU)))] s.heap.size = A at hD ⊢
  have hA : ∀ q : Nat, s.heap.size ≤ q → A q := fun q h => by rw [← hAe]; exact Or.inr h
  have hS : va_S A s.heap s.heap [] := va_S.rf
  obtain ⟨H, hHe⟩ : ∃ H : Heap, H = s.heap := ⟨_, rfl⟩
  have hS : va_S A s.heap H [] := by rw [hHe]; exact va_S.rf
  rw [← hHe] at hP
  suffices K0 : W p l e (headSpec wsL_gauge ({ frames := 3, cells := 0, slots := 0, locals := 65 } : Room)).room s m args below meth c H [] 0 0 (MQ below (Qi9 D A [(h0, .inr (5, [.ref ai, .ref pu, .ref pa, .ref ga, .ref sc, .ref hi, .ref gr, .int (nI me), .int (nI dp), .int (bI up), .int (nI mi), .int (nI ru), .long wp, .long wl])), (ga, .inr (1, [.ref g1, .ref g2, .ref g3])), (g1, .inl (cZ, 20, .inl (bA (if UP ki = bb then UP else uN UP ki bb)))), (g2, .inl (cZ, 20, .inl (bA (if UP ki = bb then CL else uN CL ki false)))), (g3, .inl (cJ, 20, .inr (.inl (if UP ki = bb then CO else uN CO ki 0)))), (ou, .inl (cJ, 1, .inr (.inl (uN OU 0 (if UP ki = true then 1 else 0)))))] (nI 0)) args s 0 0 A) (entryFrame m args 5) by rw [hHe] at K0; exact vx_ret K0
  refine W.eq (g2 := entryFrame m ([.ref h0, .int (nI ki), .int (bI bb), .ref ou] : List Value).toArray 5) (by rw [hargs]) ?_
  have hl := lv_entry ([.ref h0, .int (nI ki), .int (bI bb), .ref ou]) (n := 5) (Nat.le_of_ble_eq_true rfl)
  rw [lg_entry_eq]
  generalize (lg_sl ([.ref h0, .int (nI ki), .int (bI bb), .ref ou]) ++ List.replicate (5 - (lg_sl ([.ref h0, .int (nI ki), .int (bI bb), .ref ou])).length) Slot.unset).toArray = ls at hl ⊢
  have hl : lv_has ls 5 [(0, .ref h0), (1, .int (nI ki)), (2, .int (bI bb)), (3, .ref ou)] := hl
  generalize ([] : List Loc) = locs at hS ⊢
  refine lv_aload_n hx hb dL_gauge_0 rfl (lv_at hl 3 rfl) ?_
  refine lv_iconst (v := nI 0) hx hb dL_gauge_1 (by decide) ?_
  refine lv_aload_n hx hb dL_gauge_2 rfl (lv_at hl 0 rfl) ?_
  refine lv_iload_n hx hb dL_gauge_3 rfl (lv_at hl 1 rfl) ?_
  refine lv_iload_n hx hb dL_gauge_4 rfl (lv_at hl 2 rfl) ?_
  refine cr_i (wc := [(h0, .inr (5, [.ref ai, .ref pu, .ref pa, .ref ga, .ref sc, .ref hi, .ref gr, .int (nI me), .int (nI dp), .int (bI up), .int (nI mi), .int (nI ru), .long wp, .long wl])), (ga, .inr (1, [.ref g1, .ref g2, .ref g3])), (g1, .inl (cZ, 20, .inl (bA UP))), (g2, .inl (cZ, 20, .inl (bA CL))), (g3, .inl (cJ, 20, .inr (.inl CO)))]) (w1 := [(h0, .inr (5, [.ref ai, .ref pu, .ref pa, .ref ga, .ref sc, .ref hi, .ref gr, .int (nI me), .int (nI dp), .int (bI up), .int (nI mi), .int (nI ru), .long wp, .long wl])), (ga, .inr (1, [.ref g1, .ref g2, .ref g3])), (g1, .inl (cZ, 20, .inl (bA (if UP ki = bb then UP else uN UP ki bb)))), (g2, .inl (cZ, 20, .inl (bA (if UP ki = bb then CL else uN CL ki false)))), (g3, .inl (cJ, 20, .inr (.inl (if UP ki = bb then CO else uN CO ki 0))))]) (ws2 := [(h0, .inr (5, [.ref ai, .ref pu, .ref pa, .ref ga, .ref sc, .ref hi, .ref gr, .int (nI me), .int (nI dp), .int (bI up), .int (nI mi), .int (nI ru), .long wp, .long wl])), (ga, .inr (1, [.ref g1, .ref g2, .ref g3])), (g1, .inl (cZ, 20, .inl (bA (if UP ki = bb then UP else uN UP ki bb)))), (g2, .inl (cZ, 20, .inl (bA (if UP ki = bb then CL else uN CL ki false)))), (g3, .inl (cJ, 20, .inr (.inl (if UP ki = bb then CO else uN CO ki 0)))), (ou, .inl (cJ, 1, .inr (.inl OU)))]) hP hD hS hA [0, 1, 2, 3, 4] rfl rfl rfl (va_runV (As := [.int (nI ki), .int (bI bb)]) (rest := [.int (nI 0), .ref ou]) ⟨hx, hb, hml, hown, hts⟩ (c_X5_gauge l D cI cJ cZ h0 ai pu pa ga sc hi gr me dp up mi ru wp wl g1 g2 g3 UP CL CO ki bb (by assumption) H.size) (cwV 2 hts gL_gauge_X5_gauge rfl rfl rfl (by decide +kernel) ⟨Nat.le_of_ble_eq_true rfl, Nat.le_of_ble_eq_true rfl⟩) (pvV hT hP hD [0, 1, 2, 3, 4] rfl rfl 0 rfl rfl) rfl rfl hl.1 rfl (lv_room (Nat.le_of_ble_eq_true rfl)) dL_gauge_5 ⟨Nat.zero_le _, Nat.zero_le _⟩) (fun H locs hP hD hS => ?_)
  refine cb_eq (tgt := 15) hx hb dL_gauge_8 (by decide) (fun c_8 => ?_) (fun c_8 => ?_)
  · refine lv_lconst (v := 0) hx hb dL_gauge_15 (by decide) ?_
    refine ast_L (x := 0) hx hb hK hP hD hS 5 1 rfl rfl 0 rfl (by omega) (Nat.le_of_ble_eq_true rfl) dL_gauge_16 (fun H locs hP hD hS => ?_)
    have hP : va_P D vwCl [(h0, .inr (5, [.ref ai, .ref pu, .ref pa, .ref ga, .ref sc, .ref hi, .ref gr, .int (nI me), .int (nI dp), .int (bI up), .int (nI mi), .int (nI ru), .long wp, .long wl])), (ga, .inr (1, [.ref g1, .ref g2, .ref g3])), (g1, .inl (cZ, 20, .inl (bA (if UP ki = bb then UP else uN UP ki bb)))), (g2, .inl (cZ, 20, .inl (bA (if UP ki = bb then CL else uN CL ki false)))), (g3, .inl (cJ, 20, .inr (.inl (if UP ki = bb then CO else uN CO ki 0)))), (ou, .inl (cJ, 1, .inr (.inl (uN OU 0 0))))] H := hP
    have hD : va_D A [(h0, .inr (5, [.ref ai, .ref pu, .ref pa, .ref ga, .ref sc, .ref hi, .ref gr, .int (nI me), .int (nI dp), .int (bI up), .int (nI mi), .int (nI ru), .long wp, .long wl])), (ga, .inr (1, [.ref g1, .ref g2, .ref g3])), (g1, .inl (cZ, 20, .inl (bA (if UP ki = bb then UP else uN UP ki bb)))), (g2, .inl (cZ, 20, .inl (bA (if UP ki = bb then CL else uN CL ki false)))), (g3, .inl (cJ, 20, .inr (.inl (if UP ki = bb then CO else uN CO ki 0)))), (ou, .inl (cJ, 1, .inr (.inl (uN OU 0 0))))] := hD
    refine lv_goto (tgt := 24) hx hb dL_gauge_17 (by decide) ?_
    refine lv_iconst (v := nI 0) hx hb dL_gauge_24 (by decide) ?_
    have hwe : ([(h0, .inr (5, [.ref ai, .ref pu, .ref pa, .ref ga, .ref sc, .ref hi, .ref gr, .int (nI me), .int (nI dp), .int (bI up), .int (nI mi), .int (nI ru), .long wp, .long wl])), (ga, .inr (1, [.ref g1, .ref g2, .ref g3])), (g1, .inl (cZ, 20, .inl (bA (if UP ki = bb then UP else uN UP ki bb)))), (g2, .inl (cZ, 20, .inl (bA (if UP ki = bb then CL else uN CL ki false)))), (g3, .inl (cJ, 20, .inr (.inl (if UP ki = bb then CO else uN CO ki 0)))), (ou, .inl (cJ, 1, .inr (.inl (uN OU 0 (if UP ki = true then 1 else 0)))))] : va_W) = [(h0, .inr (5, [.ref ai, .ref pu, .ref pa, .ref ga, .ref sc, .ref hi, .ref gr, .int (nI me), .int (nI dp), .int (bI up), .int (nI mi), .int (nI ru), .long wp, .long wl])), (ga, .inr (1, [.ref g1, .ref g2, .ref g3])), (g1, .inl (cZ, 20, .inl (bA (if UP ki = bb then UP else uN UP ki bb)))), (g2, .inl (cZ, 20, .inl (bA (if UP ki = bb then CL else uN CL ki false)))), (g3, .inl (cJ, 20, .inr (.inl (if UP ki = bb then CO else uN CO ki 0)))), (ou, .inl (cJ, 1, .inr (.inl (uN OU 0 0))))] := (by rw [show (if UP ki = true then (1 : Int64) else 0) = 0 from if_neg (by rw [c_8]; decide)])
    have hP : va_P D vwCl [(h0, .inr (5, [.ref ai, .ref pu, .ref pa, .ref ga, .ref sc, .ref hi, .ref gr, .int (nI me), .int (nI dp), .int (bI up), .int (nI mi), .int (nI ru), .long wp, .long wl])), (ga, .inr (1, [.ref g1, .ref g2, .ref g3])), (g1, .inl (cZ, 20, .inl (bA (if UP ki = bb then UP else uN UP ki bb)))), (g2, .inl (cZ, 20, .inl (bA (if UP ki = bb then CL else uN CL ki false)))), (g3, .inl (cJ, 20, .inr (.inl (if UP ki = bb then CO else uN CO ki 0)))), (ou, .inl (cJ, 1, .inr (.inl (uN OU 0 (if UP ki = true then 1 else 0)))))] H := by rw [hwe]; exact hP
    have hD : va_D A [(h0, .inr (5, [.ref ai, .ref pu, .ref pa, .ref ga, .ref sc, .ref hi, .ref gr, .int (nI me), .int (nI dp), .int (bI up), .int (nI mi), .int (nI ru), .long wp, .long wl])), (ga, .inr (1, [.ref g1, .ref g2, .ref g3])), (g1, .inl (cZ, 20, .inl (bA (if UP ki = bb then UP else uN UP ki bb)))), (g2, .inl (cZ, 20, .inl (bA (if UP ki = bb then CL else uN CL ki false)))), (g3, .inl (cJ, 20, .inr (.inl (if UP ki = bb then CO else uN CO ki 0)))), (ou, .inl (cJ, 1, .inr (.inl (uN OU 0 (if UP ki = true then 1 else 0)))))] := by rw [hwe]; exact hD
    exact fin_i hx hb hr hlocks hP hD hS (rfl) dL_gauge_25
  · refine lv_lconst (v := 1) hx hb dL_gauge_11 (by decide) ?_
    refine lv_goto (tgt := 16) hx hb dL_gauge_12 (by decide) ?_
    refine ast_L (x := 1) hx hb hK hP hD hS 5 1 rfl rfl 0 rfl (by omega) (Nat.le_of_ble_eq_true rfl) dL_gauge_16 (fun H locs hP hD hS => ?_)
    have hP : va_P D vwCl [(h0, .inr (5, [.ref ai, .ref pu, .ref pa, .ref ga, .ref sc, .ref hi, .ref gr, .int (nI me), .int (nI dp), .int (bI up), .int (nI mi), .int (nI ru), .long wp, .long wl])), (ga, .inr (1, [.ref g1, .ref g2, .ref g3])), (g1, .inl (cZ, 20, .inl (bA (if UP ki = bb then UP else uN UP ki bb)))), (g2, .inl (cZ, 20, .inl (bA (if UP ki = bb then CL else uN CL ki false)))), (g3, .inl (cJ, 20, .inr (.inl (if UP ki = bb then CO else uN CO ki 0)))), (ou, .inl (cJ, 1, .inr (.inl (uN OU 0 1))))] H := hP
    have hD : va_D A [(h0, .inr (5, [.ref ai, .ref pu, .ref pa, .ref ga, .ref sc, .ref hi, .ref gr, .int (nI me), .int (nI dp), .int (bI up), .int (nI mi), .int (nI ru), .long wp, .long wl])), (ga, .inr (1, [.ref g1, .ref g2, .ref g3])), (g1, .inl (cZ, 20, .inl (bA (if UP ki = bb then UP else uN UP ki bb)))), (g2, .inl (cZ, 20, .inl (bA (if UP ki = bb then CL else uN CL ki false)))), (g3, .inl (cJ, 20, .inr (.inl (if UP ki = bb then CO else uN CO ki 0)))), (ou, .inl (cJ, 1, .inr (.inl (uN OU 0 1))))] := hD
    refine lv_goto (tgt := 24) hx hb dL_gauge_17 (by decide) ?_
    refine lv_iconst (v := nI 0) hx hb dL_gauge_24 (by decide) ?_
    have hwe : ([(h0, .inr (5, [.ref ai, .ref pu, .ref pa, .ref ga, .ref sc, .ref hi, .ref gr, .int (nI me), .int (nI dp), .int (bI up), .int (nI mi), .int (nI ru), .long wp, .long wl])), (ga, .inr (1, [.ref g1, .ref g2, .ref g3])), (g1, .inl (cZ, 20, .inl (bA (if UP ki = bb then UP else uN UP ki bb)))), (g2, .inl (cZ, 20, .inl (bA (if UP ki = bb then CL else uN CL ki false)))), (g3, .inl (cJ, 20, .inr (.inl (if UP ki = bb then CO else uN CO ki 0)))), (ou, .inl (cJ, 1, .inr (.inl (uN OU 0 (if UP ki = true then 1 else 0)))))] : va_W) = [(h0, .inr (5, [.ref ai, .ref pu, .ref pa, .ref ga, .ref sc, .ref hi, .ref gr, .int (nI me), .int (nI dp), .int (bI up), .int (nI mi), .int (nI ru), .long wp, .long wl])), (ga, .inr (1, [.ref g1, .ref g2, .ref g3])), (g1, .inl (cZ, 20, .inl (bA (if UP ki = bb then UP else uN UP ki bb)))), (g2, .inl (cZ, 20, .inl (bA (if UP ki = bb then CL else uN CL ki false)))), (g3, .inl (cJ, 20, .inr (.inl (if UP ki = bb then CO else uN CO ki 0)))), (ou, .inl (cJ, 1, .inr (.inl (uN OU 0 1))))] := (by rw [show (if UP ki = true then (1 : Int64) else 0) = 1 from if_pos c_8])
    have hP : va_P D vwCl [(h0, .inr (5, [.ref ai, .ref pu, .ref pa, .ref ga, .ref sc, .ref hi, .ref gr, .int (nI me), .int (nI dp), .int (bI up), .int (nI mi), .int (nI ru), .long wp, .long wl])), (ga, .inr (1, [.ref g1, .ref g2, .ref g3])), (g1, .inl (cZ, 20, .inl (bA (if UP ki = bb then UP else uN UP ki bb)))), (g2, .inl (cZ, 20, .inl (bA (if UP ki = bb then CL else uN CL ki false)))), (g3, .inl (cJ, 20, .inr (.inl (if UP ki = bb then CO else uN CO ki 0)))), (ou, .inl (cJ, 1, .inr (.inl (uN OU 0 (if UP ki = true then 1 else 0)))))] H := by rw [hwe]; exact hP
    have hD : va_D A [(h0, .inr (5, [.ref ai, .ref pu, .ref pa, .ref ga, .ref sc, .ref hi, .ref gr, .int (nI me), .int (nI dp), .int (bI up), .int (nI mi), .int (nI ru), .long wp, .long wl])), (ga, .inr (1, [.ref g1, .ref g2, .ref g3])), (g1, .inl (cZ, 20, .inl (bA (if UP ki = bb then UP else uN UP ki bb)))), (g2, .inl (cZ, 20, .inl (bA (if UP ki = bb then CL else uN CL ki false)))), (g3, .inl (cJ, 20, .inr (.inl (if UP ki = bb then CO else uN CO ki 0)))), (ou, .inl (cJ, 1, .inr (.inl (uN OU 0 (if UP ki = true then 1 else 0)))))] := by rw [hwe]; exact hD
    exact fin_i hx hb hr hlocks hP hD hS (rfl) dL_gauge_25
set_option maxHeartbeats 4000000 in
set_option maxRecDepth 100000 in
theorem w_L_clog (l : Launch) (D : va_G) (cI cJ cZ : ClassId) (h0 : Nat) (ai : Nat) (pu : Nat) (pa : Nat) (ga : Nat) (sc : Nat) (hi : Nat) (gr : Nat) (me : Nat) (dp : Nat) (up : Bool) (mi : Nat) (ru : Nat) (wp : Int64) (wl : Int64) (g1 : Nat) (g2 : Nat) (g3 : Nat) (UP : Nat → Bool) (CL : Nat → Bool) (CO : Nat → Int64) (ki : Nat) (bb : Bool) (ou : Nat) (OU : Nat → Int64) (hki : ki < 20) (hup : UP ki = true) (sz : Nat) : vx_Met l yL_clog wsL_clog ({ frames := 4, cells := 0, slots := 0, locals := 85 } : Room) (va_Pc [.ref h0, .int (nI ki), .int (bI bb), .ref ou] (mPre D cI cJ cZ [(h0, .inr (5, [.ref ai, .ref pu, .ref pa, .ref ga, .ref sc, .ref hi, .ref gr, .int (nI me), .int (nI dp), .int (bI up), .int (nI mi), .int (nI ru), .long wp, .long wl])), (ga, .inr (1, [.ref g1, .ref g2, .ref g3])), (g1, .inl (cZ, 20, .inl (bA UP))), (g2, .inl (cZ, 20, .inl (bA CL))), (g3, .inl (cJ, 20, .inr (.inl CO))), (ou, .inl (cJ, 1, .inr (.inl OU)))] sz)) (Qi9 D (va_A [(h0, .inr (5, [.ref ai, .ref pu, .ref pa, .ref ga, .ref sc, .ref hi, .ref gr, .int (nI me), .int (nI dp), .int (bI up), .int (nI mi), .int (nI ru), .long wp, .long wl])), (ga, .inr (1, [.ref g1, .ref g2, .ref g3])), (g1, .inl (cZ, 20, .inl (bA UP))), (g2, .inl (cZ, 20, .inl (bA CL))), (g3, .inl (cJ, 20, .inr (.inl CO))), (ou, .inl (cJ, 1, .inr (.inl OU)))] sz) [(h0, .inr (5, [.ref ai, .ref pu, .ref pa, .ref ga, .ref sc, .ref hi, .ref gr, .int (nI me), .int (nI dp), .int (bI up), .int (nI mi), .int (nI ru), .long wp, .long wl])), (ga, .inr (1, [.ref g1, .ref g2, .ref g3])), (g1, .inl (cZ, 20, .inl (bA UP))), (g2, .inl (cZ, 20, .inl (bA (uN CL ki bb)))), (g3, .inl (cJ, 20, .inr (.inl CO))), (ou, .inl (cJ, 1, .inr (.inl (uN OU 0 (if CL ki = true then 1 else 0)))))] (nI 0)) XN 0 0 (va_A [(h0, .inr (5, [.ref ai, .ref pu, .ref pa, .ref ga, .ref sc, .ref hi, .ref gr, .int (nI me), .int (nI dp), .int (bI up), .int (nI mi), .int (nI ru), .long wp, .long wl])), (ga, .inr (1, [.ref g1, .ref g2, .ref g3])), (g1, .inl (cZ, 20, .inl (bA UP))), (g2, .inl (cZ, 20, .inl (bA CL))), (g3, .inl (cJ, 20, .inr (.inl CO))), (ou, .inl (cJ, 1, .inr (.inl OU)))] sz) := by
  refine vx_ofWH (hh := [(0, 17, 20, 13)]) (cc := cL_clog) (maxL := 5) (ret := (some .int)) (by decide) rfl ?_
  intro p e s m args below meth c s₁ B hml hv
  obtain ⟨hargs, hsz, hP, hT, hD0⟩ := hv
  have hx := B.exec
  have hb := B.bytes
  have hr := B.returns
  have hts := atoms_spec (ws := wsL_clog) B.pre
  have hown : s.vm.findClass RL = some m.cls := findClass_of_methodNamed B.named
  have hlocks := B.notSynchronized
  subst hsz
  have hK := hT.1
  have hD := hD0.self (sz := s.heap.size)
  generalize hAe : va_A [(h0, .inr (5, [.ref ai, .ref pu, .ref pa, .ref ga, .ref sc, .ref hi, .ref gr, .int (nI me), .int (nI dp), .int (bI up), .int (nI mi), .int (nI ru), .long wp, .long wl])), (ga, .inr (1, [.ref g1, .ref g2, .ref g3])), (g1, .inl (cZ, 20, .inl (bA UP))), (g2, .inl (cZ, 20, .inl (bA CL))), (g3, .inl (cJ, 20, .inr (.inl CO))), (ou, .inl (cJ, 1, .inr (.inl OU)))] s.heap.size = A at hD ⊢
  have hA : ∀ q : Nat, s.heap.size ≤ q → A q := fun q h => by rw [← hAe]; exact Or.inr h
  have hS : va_S A s.heap s.heap [] := va_S.rf
  obtain ⟨H, hHe⟩ : ∃ H : Heap, H = s.heap := ⟨_, rfl⟩
  have hS : va_S A s.heap H [] := by rw [hHe]; exact va_S.rf
  rw [← hHe] at hP
  suffices K0 : W p l e (headSpec wsL_clog ({ frames := 4, cells := 0, slots := 0, locals := 85 } : Room)).room s m args below meth c H [] 0 0 (MQ below (Qi9 D A [(h0, .inr (5, [.ref ai, .ref pu, .ref pa, .ref ga, .ref sc, .ref hi, .ref gr, .int (nI me), .int (nI dp), .int (bI up), .int (nI mi), .int (nI ru), .long wp, .long wl])), (ga, .inr (1, [.ref g1, .ref g2, .ref g3])), (g1, .inl (cZ, 20, .inl (bA UP))), (g2, .inl (cZ, 20, .inl (bA (uN CL ki bb)))), (g3, .inl (cJ, 20, .inr (.inl CO))), (ou, .inl (cJ, 1, .inr (.inl (uN OU 0 (if CL ki = true then 1 else 0)))))] (nI 0)) args s 0 0 A) (entryFrame m args 5) by rw [hHe] at K0; exact vx_ret K0
  refine W.eq (g2 := entryFrame m ([.ref h0, .int (nI ki), .int (bI bb), .ref ou] : List Value).toArray 5) (by rw [hargs]) ?_
  have hl := lv_entry ([.ref h0, .int (nI ki), .int (bI bb), .ref ou]) (n := 5) (Nat.le_of_ble_eq_true rfl)
  rw [lg_entry_eq]
  generalize (lg_sl ([.ref h0, .int (nI ki), .int (bI bb), .ref ou]) ++ List.replicate (5 - (lg_sl ([.ref h0, .int (nI ki), .int (bI bb), .ref ou])).length) Slot.unset).toArray = ls at hl ⊢
  have hl : lv_has ls 5 [(0, .ref h0), (1, .int (nI ki)), (2, .int (bI bb)), (3, .ref ou)] := hl
  generalize ([] : List Loc) = locs at hS ⊢
  refine lv_aload_n hx hb dL_clog_0 rfl (lv_at hl 3 rfl) ?_
  refine lv_iconst (v := nI 0) hx hb dL_clog_1 (by decide) ?_
  refine lv_aload_n hx hb dL_clog_2 rfl (lv_at hl 0 rfl) ?_
  refine lv_iload_n hx hb dL_clog_3 rfl (lv_at hl 1 rfl) ?_
  refine lv_iload_n hx hb dL_clog_4 rfl (lv_at hl 2 rfl) ?_
  refine cr_i (wc := [(h0, .inr (5, [.ref ai, .ref pu, .ref pa, .ref ga, .ref sc, .ref hi, .ref gr, .int (nI me), .int (nI dp), .int (bI up), .int (nI mi), .int (nI ru), .long wp, .long wl])), (ga, .inr (1, [.ref g1, .ref g2, .ref g3])), (g1, .inl (cZ, 20, .inl (bA UP))), (g2, .inl (cZ, 20, .inl (bA CL))), (g3, .inl (cJ, 20, .inr (.inl CO)))]) (w1 := [(h0, .inr (5, [.ref ai, .ref pu, .ref pa, .ref ga, .ref sc, .ref hi, .ref gr, .int (nI me), .int (nI dp), .int (bI up), .int (nI mi), .int (nI ru), .long wp, .long wl])), (ga, .inr (1, [.ref g1, .ref g2, .ref g3])), (g1, .inl (cZ, 20, .inl (bA UP))), (g2, .inl (cZ, 20, .inl (bA (uN CL ki bb)))), (g3, .inl (cJ, 20, .inr (.inl CO)))]) (ws2 := [(h0, .inr (5, [.ref ai, .ref pu, .ref pa, .ref ga, .ref sc, .ref hi, .ref gr, .int (nI me), .int (nI dp), .int (bI up), .int (nI mi), .int (nI ru), .long wp, .long wl])), (ga, .inr (1, [.ref g1, .ref g2, .ref g3])), (g1, .inl (cZ, 20, .inl (bA UP))), (g2, .inl (cZ, 20, .inl (bA (uN CL ki bb)))), (g3, .inl (cJ, 20, .inr (.inl CO))), (ou, .inl (cJ, 1, .inr (.inl OU)))]) hP hD hS hA [0, 1, 2, 3, 4] rfl rfl rfl (va_runV (As := [.int (nI ki), .int (bI bb)]) (rest := [.int (nI 0), .ref ou]) ⟨hx, hb, hml, hown, hts⟩ (c_X5_clog l D cI cJ cZ h0 ai pu pa ga sc hi gr me dp up mi ru wp wl g1 g2 g3 UP CL CO ki bb (by assumption) (by assumption) H.size) (cwV 2 hts gL_clog_X5_clog rfl rfl rfl (by decide +kernel) ⟨Nat.le_of_ble_eq_true rfl, Nat.le_of_ble_eq_true rfl⟩) (pvV hT hP hD [0, 1, 2, 3, 4] rfl rfl 0 rfl rfl) rfl rfl hl.1 rfl (lv_room (Nat.le_of_ble_eq_true rfl)) dL_clog_5 ⟨Nat.zero_le _, Nat.zero_le _⟩) (fun H locs hP hD hS => ?_)
  refine cb_eq (tgt := 15) hx hb dL_clog_8 (by decide) (fun c_8 => ?_) (fun c_8 => ?_)
  · refine lv_lconst (v := 0) hx hb dL_clog_15 (by decide) ?_
    refine ast_L (x := 0) hx hb hK hP hD hS 5 1 rfl rfl 0 rfl (by omega) (Nat.le_of_ble_eq_true rfl) dL_clog_16 (fun H locs hP hD hS => ?_)
    have hP : va_P D vwCl [(h0, .inr (5, [.ref ai, .ref pu, .ref pa, .ref ga, .ref sc, .ref hi, .ref gr, .int (nI me), .int (nI dp), .int (bI up), .int (nI mi), .int (nI ru), .long wp, .long wl])), (ga, .inr (1, [.ref g1, .ref g2, .ref g3])), (g1, .inl (cZ, 20, .inl (bA UP))), (g2, .inl (cZ, 20, .inl (bA (uN CL ki bb)))), (g3, .inl (cJ, 20, .inr (.inl CO))), (ou, .inl (cJ, 1, .inr (.inl (uN OU 0 0))))] H := hP
    have hD : va_D A [(h0, .inr (5, [.ref ai, .ref pu, .ref pa, .ref ga, .ref sc, .ref hi, .ref gr, .int (nI me), .int (nI dp), .int (bI up), .int (nI mi), .int (nI ru), .long wp, .long wl])), (ga, .inr (1, [.ref g1, .ref g2, .ref g3])), (g1, .inl (cZ, 20, .inl (bA UP))), (g2, .inl (cZ, 20, .inl (bA (uN CL ki bb)))), (g3, .inl (cJ, 20, .inr (.inl CO))), (ou, .inl (cJ, 1, .inr (.inl (uN OU 0 0))))] := hD
    refine lv_goto (tgt := 24) hx hb dL_clog_17 (by decide) ?_
    refine lv_iconst (v := nI 0) hx hb dL_clog_24 (by decide) ?_
    have hwe : ([(h0, .inr (5, [.ref ai, .ref pu, .ref pa, .ref ga, .ref sc, .ref hi, .ref gr, .int (nI me), .int (nI dp), .int (bI up), .int (nI mi), .int (nI ru), .long wp, .long wl])), (ga, .inr (1, [.ref g1, .ref g2, .ref g3])), (g1, .inl (cZ, 20, .inl (bA UP))), (g2, .inl (cZ, 20, .inl (bA (uN CL ki bb)))), (g3, .inl (cJ, 20, .inr (.inl CO))), (ou, .inl (cJ, 1, .inr (.inl (uN OU 0 (if CL ki = true then 1 else 0)))))] : va_W) = [(h0, .inr (5, [.ref ai, .ref pu, .ref pa, .ref ga, .ref sc, .ref hi, .ref gr, .int (nI me), .int (nI dp), .int (bI up), .int (nI mi), .int (nI ru), .long wp, .long wl])), (ga, .inr (1, [.ref g1, .ref g2, .ref g3])), (g1, .inl (cZ, 20, .inl (bA UP))), (g2, .inl (cZ, 20, .inl (bA (uN CL ki bb)))), (g3, .inl (cJ, 20, .inr (.inl CO))), (ou, .inl (cJ, 1, .inr (.inl (uN OU 0 0))))] := (by rw [show (if CL ki = true then (1 : Int64) else 0) = 0 from if_neg (by rw [c_8]; decide)])
    have hP : va_P D vwCl [(h0, .inr (5, [.ref ai, .ref pu, .ref pa, .ref ga, .ref sc, .ref hi, .ref gr, .int (nI me), .int (nI dp), .int (bI up), .int (nI mi), .int (nI ru), .long wp, .long wl])), (ga, .inr (1, [.ref g1, .ref g2, .ref g3])), (g1, .inl (cZ, 20, .inl (bA UP))), (g2, .inl (cZ, 20, .inl (bA (uN CL ki bb)))), (g3, .inl (cJ, 20, .inr (.inl CO))), (ou, .inl (cJ, 1, .inr (.inl (uN OU 0 (if CL ki = true then 1 else 0)))))] H := by rw [hwe]; exact hP
    have hD : va_D A [(h0, .inr (5, [.ref ai, .ref pu, .ref pa, .ref ga, .ref sc, .ref hi, .ref gr, .int (nI me), .int (nI dp), .int (bI up), .int (nI mi), .int (nI ru), .long wp, .long wl])), (ga, .inr (1, [.ref g1, .ref g2, .ref g3])), (g1, .inl (cZ, 20, .inl (bA UP))), (g2, .inl (cZ, 20, .inl (bA (uN CL ki bb)))), (g3, .inl (cJ, 20, .inr (.inl CO))), (ou, .inl (cJ, 1, .inr (.inl (uN OU 0 (if CL ki = true then 1 else 0)))))] := by rw [hwe]; exact hD
    exact fin_i hx hb hr hlocks hP hD hS (rfl) dL_clog_25
  · refine lv_lconst (v := 1) hx hb dL_clog_11 (by decide) ?_
    refine lv_goto (tgt := 16) hx hb dL_clog_12 (by decide) ?_
    refine ast_L (x := 1) hx hb hK hP hD hS 5 1 rfl rfl 0 rfl (by omega) (Nat.le_of_ble_eq_true rfl) dL_clog_16 (fun H locs hP hD hS => ?_)
    have hP : va_P D vwCl [(h0, .inr (5, [.ref ai, .ref pu, .ref pa, .ref ga, .ref sc, .ref hi, .ref gr, .int (nI me), .int (nI dp), .int (bI up), .int (nI mi), .int (nI ru), .long wp, .long wl])), (ga, .inr (1, [.ref g1, .ref g2, .ref g3])), (g1, .inl (cZ, 20, .inl (bA UP))), (g2, .inl (cZ, 20, .inl (bA (uN CL ki bb)))), (g3, .inl (cJ, 20, .inr (.inl CO))), (ou, .inl (cJ, 1, .inr (.inl (uN OU 0 1))))] H := hP
    have hD : va_D A [(h0, .inr (5, [.ref ai, .ref pu, .ref pa, .ref ga, .ref sc, .ref hi, .ref gr, .int (nI me), .int (nI dp), .int (bI up), .int (nI mi), .int (nI ru), .long wp, .long wl])), (ga, .inr (1, [.ref g1, .ref g2, .ref g3])), (g1, .inl (cZ, 20, .inl (bA UP))), (g2, .inl (cZ, 20, .inl (bA (uN CL ki bb)))), (g3, .inl (cJ, 20, .inr (.inl CO))), (ou, .inl (cJ, 1, .inr (.inl (uN OU 0 1))))] := hD
    refine lv_goto (tgt := 24) hx hb dL_clog_17 (by decide) ?_
    refine lv_iconst (v := nI 0) hx hb dL_clog_24 (by decide) ?_
    have hwe : ([(h0, .inr (5, [.ref ai, .ref pu, .ref pa, .ref ga, .ref sc, .ref hi, .ref gr, .int (nI me), .int (nI dp), .int (bI up), .int (nI mi), .int (nI ru), .long wp, .long wl])), (ga, .inr (1, [.ref g1, .ref g2, .ref g3])), (g1, .inl (cZ, 20, .inl (bA UP))), (g2, .inl (cZ, 20, .inl (bA (uN CL ki bb)))), (g3, .inl (cJ, 20, .inr (.inl CO))), (ou, .inl (cJ, 1, .inr (.inl (uN OU 0 (if CL ki = true then 1 else 0)))))] : va_W) = [(h0, .inr (5, [.ref ai, .ref pu, .ref pa, .ref ga, .ref sc, .ref hi, .ref gr, .int (nI me), .int (nI dp), .int (bI up), .int (nI mi), .int (nI ru), .long wp, .long wl])), (ga, .inr (1, [.ref g1, .ref g2, .ref g3])), (g1, .inl (cZ, 20, .inl (bA UP))), (g2, .inl (cZ, 20, .inl (bA (uN CL ki bb)))), (g3, .inl (cJ, 20, .inr (.inl CO))), (ou, .inl (cJ, 1, .inr (.inl (uN OU 0 1))))] := (by rw [show (if CL ki = true then (1 : Int64) else 0) = 1 from if_pos c_8])
    have hP : va_P D vwCl [(h0, .inr (5, [.ref ai, .ref pu, .ref pa, .ref ga, .ref sc, .ref hi, .ref gr, .int (nI me), .int (nI dp), .int (bI up), .int (nI mi), .int (nI ru), .long wp, .long wl])), (ga, .inr (1, [.ref g1, .ref g2, .ref g3])), (g1, .inl (cZ, 20, .inl (bA UP))), (g2, .inl (cZ, 20, .inl (bA (uN CL ki bb)))), (g3, .inl (cJ, 20, .inr (.inl CO))), (ou, .inl (cJ, 1, .inr (.inl (uN OU 0 (if CL ki = true then 1 else 0)))))] H := by rw [hwe]; exact hP
    have hD : va_D A [(h0, .inr (5, [.ref ai, .ref pu, .ref pa, .ref ga, .ref sc, .ref hi, .ref gr, .int (nI me), .int (nI dp), .int (bI up), .int (nI mi), .int (nI ru), .long wp, .long wl])), (ga, .inr (1, [.ref g1, .ref g2, .ref g3])), (g1, .inl (cZ, 20, .inl (bA UP))), (g2, .inl (cZ, 20, .inl (bA (uN CL ki bb)))), (g3, .inl (cJ, 20, .inr (.inl CO))), (ou, .inl (cJ, 1, .inr (.inl (uN OU 0 (if CL ki = true then 1 else 0)))))] := by rw [hwe]; exact hD
    exact fin_i hx hb hr hlocks hP hD hS (rfl) dL_clog_25
set_option maxHeartbeats 4000000 in
set_option maxRecDepth 100000 in
theorem w_L_rule (l : Launch) (D : va_G) (cI cJ cZ : ClassId) (h0 : Nat) (ai : Nat) (pu : Nat) (pa : Nat) (ga : Nat) (sc : Nat) (hi : Nat) (gr : Nat) (me : Nat) (dp : Nat) (up : Bool) (mi : Nat) (ru : Nat) (wp : Int64) (wl : Int64) (rr : Nat) (ou : Nat) (OU : Nat → Int64) (hr1 : 1 ≤ rr) (hr2 : rr ≤ 1000) (sz : Nat) : vx_Met l yL_rule wsL_rule ({ frames := 2, cells := 0, slots := 0, locals := 44 } : Room) (va_Pc [.ref h0, .int (nI rr), .ref ou] (mPre D cI cJ cZ [(h0, .inr (5, [.ref ai, .ref pu, .ref pa, .ref ga, .ref sc, .ref hi, .ref gr, .int (nI me), .int (nI dp), .int (bI up), .int (nI mi), .int (nI ru), .long wp, .long wl])), (ou, .inl (cJ, 1, .inr (.inl OU)))] sz)) (Qi9 D (va_A [(h0, .inr (5, [.ref ai, .ref pu, .ref pa, .ref ga, .ref sc, .ref hi, .ref gr, .int (nI me), .int (nI dp), .int (bI up), .int (nI mi), .int (nI ru), .long wp, .long wl])), (ou, .inl (cJ, 1, .inr (.inl OU)))] sz) [(h0, .inr (5, [.ref ai, .ref pu, .ref pa, .ref ga, .ref sc, .ref hi, .ref gr, .int (nI me), .int (nI dp), .int (bI up), .int (nI mi), .int (nI rr), .long wp, .long wl])), (ou, .inl (cJ, 1, .inr (.inl (uN OU 0 ((nI ru).toInt64)))))] (nI 0)) XN 0 0 (va_A [(h0, .inr (5, [.ref ai, .ref pu, .ref pa, .ref ga, .ref sc, .ref hi, .ref gr, .int (nI me), .int (nI dp), .int (bI up), .int (nI mi), .int (nI ru), .long wp, .long wl])), (ou, .inl (cJ, 1, .inr (.inl OU)))] sz) := by
  refine vx_ofWH (hh := [(0, 9, 12, 15)]) (cc := cL_rule) (maxL := 4) (ret := (some .int)) (by decide) rfl ?_
  intro p e s m args below meth c s₁ B hml hv
  obtain ⟨hargs, hsz, hP, hT, hD0⟩ := hv
  have hx := B.exec
  have hb := B.bytes
  have hr := B.returns
  have hts := atoms_spec (ws := wsL_rule) B.pre
  have hown : s.vm.findClass RL = some m.cls := findClass_of_methodNamed B.named
  have hlocks := B.notSynchronized
  subst hsz
  have hK := hT.1
  have hD := hD0.self (sz := s.heap.size)
  generalize hAe : va_A [(h0, .inr (5, [.ref ai, .ref pu, .ref pa, .ref ga, .ref sc, .ref hi, .ref gr, .int (nI me), .int (nI dp), .int (bI up), .int (nI mi), .int (nI ru), .long wp, .long wl])), (ou, .inl (cJ, 1, .inr (.inl OU)))] s.heap.size = A at hD ⊢
  have hA : ∀ q : Nat, s.heap.size ≤ q → A q := fun q h => by rw [← hAe]; exact Or.inr h
  have hS : va_S A s.heap s.heap [] := va_S.rf
  obtain ⟨H, hHe⟩ : ∃ H : Heap, H = s.heap := ⟨_, rfl⟩
  have hS : va_S A s.heap H [] := by rw [hHe]; exact va_S.rf
  rw [← hHe] at hP
  suffices K0 : W p l e (headSpec wsL_rule ({ frames := 2, cells := 0, slots := 0, locals := 44 } : Room)).room s m args below meth c H [] 0 0 (MQ below (Qi9 D A [(h0, .inr (5, [.ref ai, .ref pu, .ref pa, .ref ga, .ref sc, .ref hi, .ref gr, .int (nI me), .int (nI dp), .int (bI up), .int (nI mi), .int (nI rr), .long wp, .long wl])), (ou, .inl (cJ, 1, .inr (.inl (uN OU 0 ((nI ru).toInt64)))))] (nI 0)) args s 0 0 A) (entryFrame m args 4) by rw [hHe] at K0; exact vx_ret K0
  refine W.eq (g2 := entryFrame m ([.ref h0, .int (nI rr), .ref ou] : List Value).toArray 4) (by rw [hargs]) ?_
  have hl := lv_entry ([.ref h0, .int (nI rr), .ref ou]) (n := 4) (Nat.le_of_ble_eq_true rfl)
  rw [lg_entry_eq]
  generalize (lg_sl ([.ref h0, .int (nI rr), .ref ou]) ++ List.replicate (4 - (lg_sl ([.ref h0, .int (nI rr), .ref ou])).length) Slot.unset).toArray = ls at hl ⊢
  have hl : lv_has ls 4 [(0, .ref h0), (1, .int (nI rr)), (2, .ref ou)] := hl
  generalize ([] : List Loc) = locs at hS ⊢
  refine lv_aload_n hx hb dL_rule_0 rfl (lv_at hl 2 rfl) ?_
  refine lv_iconst (v := nI 0) hx hb dL_rule_1 (by decide) ?_
  refine lv_aload_n hx hb dL_rule_2 rfl (lv_at hl 0 rfl) ?_
  refine lv_iload_n hx hb dL_rule_3 rfl (lv_at hl 1 rfl) ?_
  refine cr_i (wc := [(h0, .inr (5, [.ref ai, .ref pu, .ref pa, .ref ga, .ref sc, .ref hi, .ref gr, .int (nI me), .int (nI dp), .int (bI up), .int (nI mi), .int (nI ru), .long wp, .long wl]))]) (w1 := [(h0, .inr (5, [.ref ai, .ref pu, .ref pa, .ref ga, .ref sc, .ref hi, .ref gr, .int (nI me), .int (nI dp), .int (bI up), .int (nI mi), .int (nI rr), .long wp, .long wl]))]) (ws2 := [(h0, .inr (5, [.ref ai, .ref pu, .ref pa, .ref ga, .ref sc, .ref hi, .ref gr, .int (nI me), .int (nI dp), .int (bI up), .int (nI mi), .int (nI rr), .long wp, .long wl])), (ou, .inl (cJ, 1, .inr (.inl OU)))]) hP hD hS hA [0] rfl rfl rfl (va_runV (As := [.int (nI rr)]) (rest := [.int (nI 0), .ref ou]) ⟨hx, hb, hml, hown, hts⟩ (c_X5_rule l D cI cJ cZ h0 ai pu pa ga sc hi gr me dp up mi ru wp wl rr (by assumption) (by assumption) H.size) (cwV 1 hts gL_rule_X5_rule rfl rfl rfl (by decide +kernel) ⟨Nat.le_of_ble_eq_true rfl, Nat.le_of_ble_eq_true rfl⟩) (pvV hT hP hD [0] rfl rfl 0 rfl rfl) rfl rfl hl.1 rfl (lv_room (Nat.le_of_ble_eq_true rfl)) dL_rule_4 ⟨Nat.zero_le _, Nat.zero_le _⟩) (fun H locs hP hD hS => ?_)
  refine lv_i2l (v := (nI ru).toInt64) hx hb dL_rule_7 rfl ?_
  refine ast_L (x := (nI ru).toInt64) hx hb hK hP hD hS 1 1 rfl rfl 0 rfl (by omega) (Nat.le_of_ble_eq_true rfl) dL_rule_8 (fun H locs hP hD hS => ?_)
  have hP : va_P D vwCl [(h0, .inr (5, [.ref ai, .ref pu, .ref pa, .ref ga, .ref sc, .ref hi, .ref gr, .int (nI me), .int (nI dp), .int (bI up), .int (nI mi), .int (nI rr), .long wp, .long wl])), (ou, .inl (cJ, 1, .inr (.inl (uN OU 0 ((nI ru).toInt64)))))] H := hP
  have hD : va_D A [(h0, .inr (5, [.ref ai, .ref pu, .ref pa, .ref ga, .ref sc, .ref hi, .ref gr, .int (nI me), .int (nI dp), .int (bI up), .int (nI mi), .int (nI rr), .long wp, .long wl])), (ou, .inl (cJ, 1, .inr (.inl (uN OU 0 ((nI ru).toInt64)))))] := hD
  refine lv_goto (tgt := 15) hx hb dL_rule_9 (by decide) ?_
  refine lv_iconst (v := nI 0) hx hb dL_rule_15 (by decide) ?_
  exact fin_i hx hb hr hlocks hP hD hS (rfl) dL_rule_16
set_option maxHeartbeats 4000000 in
set_option maxRecDepth 100000 in
theorem w_L_count (l : Launch) (D : va_G) (cI cJ cZ : ClassId) (h0 : Nat) (ai : Nat) (pu : Nat) (pa : Nat) (ga : Nat) (sc : Nat) (hi : Nat) (gr : Nat) (me : Nat) (dp : Nat) (up : Bool) (mi : Nat) (ru : Nat) (wp : Int64) (wl : Int64) (a1 : Nat) (C : Nat → Nat) (ki : Nat) (la : Nat) (si : Nat) (ou : Nat) (OU : Nat → Int64) (hki : ki < 20) (hla : la < 10) (hs1 : 1 ≤ si) (hs3 : si ≤ 3) (sz : Nat) : vx_Met l yL_count wsL_count ({ frames := 3, cells := 0, slots := 0, locals := 69 } : Room) (va_Pc [.ref h0, .int (nI ki), .int (nI la), .int (nI si), .ref ou] (mPre D cI cJ cZ [(h0, .inr (5, [.ref ai, .ref pu, .ref pa, .ref ga, .ref sc, .ref hi, .ref gr, .int (nI me), .int (nI dp), .int (bI up), .int (nI mi), .int (nI ru), .long wp, .long wl])), (ai, .inr (0, [.ref a1])), (a1, .inl (cI, 600, .inl (nA C))), (ou, .inl (cJ, 1, .inr (.inl OU)))] sz)) (Qi9 D (va_A [(h0, .inr (5, [.ref ai, .ref pu, .ref pa, .ref ga, .ref sc, .ref hi, .ref gr, .int (nI me), .int (nI dp), .int (bI up), .int (nI mi), .int (nI ru), .long wp, .long wl])), (ai, .inr (0, [.ref a1])), (a1, .inl (cI, 600, .inl (nA C))), (ou, .inl (cJ, 1, .inr (.inl OU)))] sz) [(h0, .inr (5, [.ref ai, .ref pu, .ref pa, .ref ga, .ref sc, .ref hi, .ref gr, .int (nI me), .int (nI dp), .int (bI up), .int (nI mi), .int (nI ru), .long wp, .long wl])), (ai, .inr (0, [.ref a1])), (a1, .inl (cI, 600, .inl (nA C))), (ou, .inl (cJ, 1, .inr (.inl (uN OU 0 ((nI (C (30 * ki + 3 * la + (si - 1)))).toInt64)))))] (nI 0)) XN 0 0 (va_A [(h0, .inr (5, [.ref ai, .ref pu, .ref pa, .ref ga, .ref sc, .ref hi, .ref gr, .int (nI me), .int (nI dp), .int (bI up), .int (nI mi), .int (nI ru), .long wp, .long wl])), (ai, .inr (0, [.ref a1])), (a1, .inl (cI, 600, .inl (nA C))), (ou, .inl (cJ, 1, .inr (.inl OU)))] sz) := by
  refine vx_ofWH (hh := [(0, 12, 15, 13), (0, 12, 19, 15)]) (cc := cL_count) (maxL := 6) (ret := (some .int)) (by decide) rfl ?_
  intro p e s m args below meth c s₁ B hml hv
  obtain ⟨hargs, hsz, hP, hT, hD0⟩ := hv
  have hx := B.exec
  have hb := B.bytes
  have hr := B.returns
  have hts := atoms_spec (ws := wsL_count) B.pre
  have hown : s.vm.findClass RL = some m.cls := findClass_of_methodNamed B.named
  have hlocks := B.notSynchronized
  subst hsz
  have hK := hT.1
  have hD := hD0.self (sz := s.heap.size)
  generalize hAe : va_A [(h0, .inr (5, [.ref ai, .ref pu, .ref pa, .ref ga, .ref sc, .ref hi, .ref gr, .int (nI me), .int (nI dp), .int (bI up), .int (nI mi), .int (nI ru), .long wp, .long wl])), (ai, .inr (0, [.ref a1])), (a1, .inl (cI, 600, .inl (nA C))), (ou, .inl (cJ, 1, .inr (.inl OU)))] s.heap.size = A at hD ⊢
  have hA : ∀ q : Nat, s.heap.size ≤ q → A q := fun q h => by rw [← hAe]; exact Or.inr h
  have hS : va_S A s.heap s.heap [] := va_S.rf
  obtain ⟨H, hHe⟩ : ∃ H : Heap, H = s.heap := ⟨_, rfl⟩
  have hS : va_S A s.heap H [] := by rw [hHe]; exact va_S.rf
  rw [← hHe] at hP
  suffices K0 : W p l e (headSpec wsL_count ({ frames := 3, cells := 0, slots := 0, locals := 69 } : Room)).room s m args below meth c H [] 0 0 (MQ below (Qi9 D A [(h0, .inr (5, [.ref ai, .ref pu, .ref pa, .ref ga, .ref sc, .ref hi, .ref gr, .int (nI me), .int (nI dp), .int (bI up), .int (nI mi), .int (nI ru), .long wp, .long wl])), (ai, .inr (0, [.ref a1])), (a1, .inl (cI, 600, .inl (nA C))), (ou, .inl (cJ, 1, .inr (.inl (uN OU 0 ((nI (C (30 * ki + 3 * la + (si - 1)))).toInt64)))))] (nI 0)) args s 0 0 A) (entryFrame m args 6) by rw [hHe] at K0; exact vx_ret K0
  refine W.eq (g2 := entryFrame m ([.ref h0, .int (nI ki), .int (nI la), .int (nI si), .ref ou] : List Value).toArray 6) (by rw [hargs]) ?_
  have hl := lv_entry ([.ref h0, .int (nI ki), .int (nI la), .int (nI si), .ref ou]) (n := 6) (Nat.le_of_ble_eq_true rfl)
  rw [lg_entry_eq]
  generalize (lg_sl ([.ref h0, .int (nI ki), .int (nI la), .int (nI si), .ref ou]) ++ List.replicate (6 - (lg_sl ([.ref h0, .int (nI ki), .int (nI la), .int (nI si), .ref ou])).length) Slot.unset).toArray = ls at hl ⊢
  have hl : lv_has ls 6 [(0, .ref h0), (1, .int (nI ki)), (2, .int (nI la)), (3, .int (nI si)), (4, .ref ou)] := hl
  generalize ([] : List Loc) = locs at hS ⊢
  refine lv_aload hx hb dL_count_0 (lv_at hl 4 rfl) ?_
  refine lv_iconst (v := nI 0) hx hb dL_count_2 (by decide) ?_
  refine lv_aload_n hx hb dL_count_3 rfl (lv_at hl 0 rfl) ?_
  refine lv_iload_n hx hb dL_count_4 rfl (lv_at hl 1 rfl) ?_
  refine lv_iload_n hx hb dL_count_5 rfl (lv_at hl 2 rfl) ?_
  refine lv_iload_n hx hb dL_count_6 rfl (lv_at hl 3 rfl) ?_
  refine cr_i (wc := [(h0, .inr (5, [.ref ai, .ref pu, .ref pa, .ref ga, .ref sc, .ref hi, .ref gr, .int (nI me), .int (nI dp), .int (bI up), .int (nI mi), .int (nI ru), .long wp, .long wl])), (ai, .inr (0, [.ref a1])), (a1, .inl (cI, 600, .inl (nA C)))]) (w1 := [(h0, .inr (5, [.ref ai, .ref pu, .ref pa, .ref ga, .ref sc, .ref hi, .ref gr, .int (nI me), .int (nI dp), .int (bI up), .int (nI mi), .int (nI ru), .long wp, .long wl])), (ai, .inr (0, [.ref a1])), (a1, .inl (cI, 600, .inl (nA C)))]) (ws2 := [(h0, .inr (5, [.ref ai, .ref pu, .ref pa, .ref ga, .ref sc, .ref hi, .ref gr, .int (nI me), .int (nI dp), .int (bI up), .int (nI mi), .int (nI ru), .long wp, .long wl])), (ai, .inr (0, [.ref a1])), (a1, .inl (cI, 600, .inl (nA C))), (ou, .inl (cJ, 1, .inr (.inl OU)))]) hP hD hS hA [0, 1, 2] rfl rfl rfl (va_runV (As := [.int (nI ki), .int (nI la), .int (nI si)]) (rest := [.int (nI 0), .ref ou]) ⟨hx, hb, hml, hown, hts⟩ (c_X5_count l D cI cJ cZ h0 ai pu pa ga sc hi gr me dp up mi ru wp wl a1 C ki la si (by assumption) (by assumption) (by assumption) (by assumption) H.size) (cwV 3 hts gL_count_X5_count rfl rfl rfl (by decide +kernel) ⟨Nat.le_of_ble_eq_true rfl, Nat.le_of_ble_eq_true rfl⟩) (pvV hT hP hD [0, 1, 2] rfl rfl 0 rfl rfl) rfl rfl hl.1 rfl (lv_room (Nat.le_of_ble_eq_true rfl)) dL_count_7 ⟨Nat.zero_le _, Nat.zero_le _⟩) (fun H locs hP hD hS => ?_)
  refine lv_i2l (v := (nI (C (30 * ki + 3 * la + (si - 1)))).toInt64) hx hb dL_count_10 rfl ?_
  refine ast_L (x := (nI (C (30 * ki + 3 * la + (si - 1)))).toInt64) hx hb hK hP hD hS 3 1 rfl rfl 0 rfl (by omega) (Nat.le_of_ble_eq_true rfl) dL_count_11 (fun H locs hP hD hS => ?_)
  have hP : va_P D vwCl [(h0, .inr (5, [.ref ai, .ref pu, .ref pa, .ref ga, .ref sc, .ref hi, .ref gr, .int (nI me), .int (nI dp), .int (bI up), .int (nI mi), .int (nI ru), .long wp, .long wl])), (ai, .inr (0, [.ref a1])), (a1, .inl (cI, 600, .inl (nA C))), (ou, .inl (cJ, 1, .inr (.inl (uN OU 0 ((nI (C (30 * ki + 3 * la + (si - 1)))).toInt64)))))] H := hP
  have hD : va_D A [(h0, .inr (5, [.ref ai, .ref pu, .ref pa, .ref ga, .ref sc, .ref hi, .ref gr, .int (nI me), .int (nI dp), .int (bI up), .int (nI mi), .int (nI ru), .long wp, .long wl])), (ai, .inr (0, [.ref a1])), (a1, .inl (cI, 600, .inl (nA C))), (ou, .inl (cJ, 1, .inr (.inl (uN OU 0 ((nI (C (30 * ki + 3 * la + (si - 1)))).toInt64)))))] := hD
  refine lv_goto (tgt := 23) hx hb dL_count_12 (by decide) ?_
  refine lv_iconst (v := nI 0) hx hb dL_count_23 (by decide) ?_
  exact fin_i hx hb hr hlocks hP hD hS (rfl) dL_count_24
set_option maxHeartbeats 4000000 in
set_option maxRecDepth 100000 in
theorem w_L_phase (l : Launch) (D : va_G) (cI cJ cZ : ClassId) (h0 : Nat) (ai : Nat) (pu : Nat) (pa : Nat) (ga : Nat) (sc : Nat) (hi : Nat) (gr : Nat) (me : Nat) (dp : Nat) (up : Bool) (mi : Nat) (ru : Nat) (wp : Int64) (wl : Int64) (la : Nat) (ou : Nat) (OU : Nat → Int64) (hla : la < 10) (hme : me < 10) (sz : Nat) : vx_Met l yL_phase wsL_phase ({ frames := 2, cells := 0, slots := 0, locals := 42 } : Room) (va_Pc [.ref h0, .int (nI la), .ref ou] (mPre D cI cJ cZ [(h0, .inr (5, [.ref ai, .ref pu, .ref pa, .ref ga, .ref sc, .ref hi, .ref gr, .int (nI me), .int (nI dp), .int (bI up), .int (nI mi), .int (nI ru), .long wp, .long wl])), (ou, .inl (cJ, 1, .inr (.inl OU)))] sz)) (Qi9 D (va_A [(h0, .inr (5, [.ref ai, .ref pu, .ref pa, .ref ga, .ref sc, .ref hi, .ref gr, .int (nI me), .int (nI dp), .int (bI up), .int (nI mi), .int (nI ru), .long wp, .long wl])), (ou, .inl (cJ, 1, .inr (.inl OU)))] sz) [(h0, .inr (5, [.ref ai, .ref pu, .ref pa, .ref ga, .ref sc, .ref hi, .ref gr, .int (nI me), .int (nI dp), .int (bI up), .int (nI mi), .int (nI ru), .long wp, .long wl])), (ou, .inl (cJ, 1, .inr (.inl (uN OU 0 ((nI (phN la me)).toInt64)))))] (nI 0)) XN 0 0 (va_A [(h0, .inr (5, [.ref ai, .ref pu, .ref pa, .ref ga, .ref sc, .ref hi, .ref gr, .int (nI me), .int (nI dp), .int (bI up), .int (nI mi), .int (nI ru), .long wp, .long wl])), (ou, .inl (cJ, 1, .inr (.inl OU)))] sz) := by
  refine vx_ofWH (hh := [(0, 9, 12, 13)]) (cc := cL_phase) (maxL := 4) (ret := (some .int)) (by decide) rfl ?_
  intro p e s m args below meth c s₁ B hml hv
  obtain ⟨hargs, hsz, hP, hT, hD0⟩ := hv
  have hx := B.exec
  have hb := B.bytes
  have hr := B.returns
  have hts := atoms_spec (ws := wsL_phase) B.pre
  have hown : s.vm.findClass RL = some m.cls := findClass_of_methodNamed B.named
  have hlocks := B.notSynchronized
  subst hsz
  have hK := hT.1
  have hD := hD0.self (sz := s.heap.size)
  generalize hAe : va_A [(h0, .inr (5, [.ref ai, .ref pu, .ref pa, .ref ga, .ref sc, .ref hi, .ref gr, .int (nI me), .int (nI dp), .int (bI up), .int (nI mi), .int (nI ru), .long wp, .long wl])), (ou, .inl (cJ, 1, .inr (.inl OU)))] s.heap.size = A at hD ⊢
  have hA : ∀ q : Nat, s.heap.size ≤ q → A q := fun q h => by rw [← hAe]; exact Or.inr h
  have hS : va_S A s.heap s.heap [] := va_S.rf
  obtain ⟨H, hHe⟩ : ∃ H : Heap, H = s.heap := ⟨_, rfl⟩
  have hS : va_S A s.heap H [] := by rw [hHe]; exact va_S.rf
  rw [← hHe] at hP
  suffices K0 : W p l e (headSpec wsL_phase ({ frames := 2, cells := 0, slots := 0, locals := 42 } : Room)).room s m args below meth c H [] 0 0 (MQ below (Qi9 D A [(h0, .inr (5, [.ref ai, .ref pu, .ref pa, .ref ga, .ref sc, .ref hi, .ref gr, .int (nI me), .int (nI dp), .int (bI up), .int (nI mi), .int (nI ru), .long wp, .long wl])), (ou, .inl (cJ, 1, .inr (.inl (uN OU 0 ((nI (phN la me)).toInt64)))))] (nI 0)) args s 0 0 A) (entryFrame m args 4) by rw [hHe] at K0; exact vx_ret K0
  refine W.eq (g2 := entryFrame m ([.ref h0, .int (nI la), .ref ou] : List Value).toArray 4) (by rw [hargs]) ?_
  have hl := lv_entry ([.ref h0, .int (nI la), .ref ou]) (n := 4) (Nat.le_of_ble_eq_true rfl)
  rw [lg_entry_eq]
  generalize (lg_sl ([.ref h0, .int (nI la), .ref ou]) ++ List.replicate (4 - (lg_sl ([.ref h0, .int (nI la), .ref ou])).length) Slot.unset).toArray = ls at hl ⊢
  have hl : lv_has ls 4 [(0, .ref h0), (1, .int (nI la)), (2, .ref ou)] := hl
  generalize ([] : List Loc) = locs at hS ⊢
  refine lv_aload_n hx hb dL_phase_0 rfl (lv_at hl 2 rfl) ?_
  refine lv_iconst (v := nI 0) hx hb dL_phase_1 (by decide) ?_
  refine lv_aload_n hx hb dL_phase_2 rfl (lv_at hl 0 rfl) ?_
  refine lv_iload_n hx hb dL_phase_3 rfl (lv_at hl 1 rfl) ?_
  refine cr_i (wc := [(h0, .inr (5, [.ref ai, .ref pu, .ref pa, .ref ga, .ref sc, .ref hi, .ref gr, .int (nI me), .int (nI dp), .int (bI up), .int (nI mi), .int (nI ru), .long wp, .long wl]))]) (w1 := [(h0, .inr (5, [.ref ai, .ref pu, .ref pa, .ref ga, .ref sc, .ref hi, .ref gr, .int (nI me), .int (nI dp), .int (bI up), .int (nI mi), .int (nI ru), .long wp, .long wl]))]) (ws2 := [(h0, .inr (5, [.ref ai, .ref pu, .ref pa, .ref ga, .ref sc, .ref hi, .ref gr, .int (nI me), .int (nI dp), .int (bI up), .int (nI mi), .int (nI ru), .long wp, .long wl])), (ou, .inl (cJ, 1, .inr (.inl OU)))]) hP hD hS hA [0] rfl rfl rfl (va_runV (As := [.int (nI la)]) (rest := [.int (nI 0), .ref ou]) ⟨hx, hb, hml, hown, hts⟩ (c_X5_phase l D cI cJ cZ h0 ai pu pa ga sc hi gr me dp up mi ru wp wl la (by assumption) (by assumption) H.size) (cwV 1 hts gL_phase_X5_phase rfl rfl rfl (by decide +kernel) ⟨Nat.le_of_ble_eq_true rfl, Nat.le_of_ble_eq_true rfl⟩) (pvV hT hP hD [0] rfl rfl 0 rfl rfl) rfl rfl hl.1 rfl (lv_room (Nat.le_of_ble_eq_true rfl)) dL_phase_4 ⟨Nat.zero_le _, Nat.zero_le _⟩) (fun H locs hP hD hS => ?_)
  refine lv_i2l (v := (nI (phN la me)).toInt64) hx hb dL_phase_7 rfl ?_
  refine ast_L (x := (nI (phN la me)).toInt64) hx hb hK hP hD hS 1 1 rfl rfl 0 rfl (by omega) (Nat.le_of_ble_eq_true rfl) dL_phase_8 (fun H locs hP hD hS => ?_)
  have hP : va_P D vwCl [(h0, .inr (5, [.ref ai, .ref pu, .ref pa, .ref ga, .ref sc, .ref hi, .ref gr, .int (nI me), .int (nI dp), .int (bI up), .int (nI mi), .int (nI ru), .long wp, .long wl])), (ou, .inl (cJ, 1, .inr (.inl (uN OU 0 ((nI (phN la me)).toInt64)))))] H := hP
  have hD : va_D A [(h0, .inr (5, [.ref ai, .ref pu, .ref pa, .ref ga, .ref sc, .ref hi, .ref gr, .int (nI me), .int (nI dp), .int (bI up), .int (nI mi), .int (nI ru), .long wp, .long wl])), (ou, .inl (cJ, 1, .inr (.inl (uN OU 0 ((nI (phN la me)).toInt64)))))] := hD
  refine lv_goto (tgt := 15) hx hb dL_phase_9 (by decide) ?_
  refine lv_iconst (v := nI 0) hx hb dL_phase_15 (by decide) ?_
  exact fin_i hx hb hr hlocks hP hD hS (rfl) dL_phase_16
set_option maxHeartbeats 4000000 in
set_option maxRecDepth 100000 in
theorem w_L_echo (l : Launch) (D : va_G) (cI cJ cZ : ClassId) (h0 : Nat) (ai : Nat) (pu : Nat) (pa : Nat) (ga : Nat) (sc : Nat) (hi : Nat) (gr : Nat) (me : Nat) (dp : Nat) (up : Bool) (mi : Nat) (ru : Nat) (wp : Int64) (wl : Int64) (HI : Nat → Nat) (a1 : Nat) (C : Nat → Nat) (ki : Nat) (ev : Nat) (ou : Nat) (OU : Nat → Int64) (hki : ki < 20) (hev : ev < 4) (hme : me < 10) (hHI : ∀ k, k < 20 → HI k ≤ 9) (sz : Nat) : vx_Met l yL_echo wsL_echo ({ frames := 5, cells := 0, slots := 0, locals := 121 } : Room) (va_Pc [.ref h0, .int (nI ki), .int (nI ev), .ref ou] (mPre D cI cJ cZ [(h0, .inr (5, [.ref ai, .ref pu, .ref pa, .ref ga, .ref sc, .ref hi, .ref gr, .int (nI me), .int (nI dp), .int (bI up), .int (nI mi), .int (nI ru), .long wp, .long wl])), (hi, .inl (cI, 20, .inl (nA HI))), (ai, .inr (0, [.ref a1])), (a1, .inl (cI, 600, .inl (nA C))), (ou, .inl (cJ, 1, .inr (.inl OU)))] sz)) (Qi9 D (va_A [(h0, .inr (5, [.ref ai, .ref pu, .ref pa, .ref ga, .ref sc, .ref hi, .ref gr, .int (nI me), .int (nI dp), .int (bI up), .int (nI mi), .int (nI ru), .long wp, .long wl])), (hi, .inl (cI, 20, .inl (nA HI))), (ai, .inr (0, [.ref a1])), (a1, .inl (cI, 600, .inl (nA C))), (ou, .inl (cJ, 1, .inr (.inl OU)))] sz) [(h0, .inr (5, [.ref ai, .ref pu, .ref pa, .ref ga, .ref sc, .ref hi, .ref gr, .int (nI me), .int (nI dp), .int (bI up), .int (nI mi), .int (nI ru), .long wp, .long wl])), (hi, .inl (cI, 20, .inl (nA HI))), (ai, .inr (0, [.ref a1])), (a1, .inl (cI, 600, .inl (nA C))), (ou, .inl (cJ, 1, .inr (.inl (uN OU 0 (if ki < rch HI ev 20 0 then eb9 C me ki ev else -1)))))] (nI 0)) XN 0 0 (va_A [(h0, .inr (5, [.ref ai, .ref pu, .ref pa, .ref ga, .ref sc, .ref hi, .ref gr, .int (nI me), .int (nI dp), .int (bI up), .int (nI mi), .int (nI ru), .long wp, .long wl])), (hi, .inl (cI, 20, .inl (nA HI))), (ai, .inr (0, [.ref a1])), (a1, .inl (cI, 600, .inl (nA C))), (ou, .inl (cJ, 1, .inr (.inl OU)))] sz) := by
  refine vx_ofWH (hh := [(0, 9, 12, 13), (0, 9, 16, 15)]) (cc := cL_echo) (maxL := 5) (ret := (some .int)) (by decide) rfl ?_
  intro p e s m args below meth c s₁ B hml hv
  obtain ⟨hargs, hsz, hP, hT, hD0⟩ := hv
  have hx := B.exec
  have hb := B.bytes
  have hr := B.returns
  have hts := atoms_spec (ws := wsL_echo) B.pre
  have hown : s.vm.findClass RL = some m.cls := findClass_of_methodNamed B.named
  have hlocks := B.notSynchronized
  subst hsz
  have hK := hT.1
  have hD := hD0.self (sz := s.heap.size)
  generalize hAe : va_A [(h0, .inr (5, [.ref ai, .ref pu, .ref pa, .ref ga, .ref sc, .ref hi, .ref gr, .int (nI me), .int (nI dp), .int (bI up), .int (nI mi), .int (nI ru), .long wp, .long wl])), (hi, .inl (cI, 20, .inl (nA HI))), (ai, .inr (0, [.ref a1])), (a1, .inl (cI, 600, .inl (nA C))), (ou, .inl (cJ, 1, .inr (.inl OU)))] s.heap.size = A at hD ⊢
  have hA : ∀ q : Nat, s.heap.size ≤ q → A q := fun q h => by rw [← hAe]; exact Or.inr h
  have hS : va_S A s.heap s.heap [] := va_S.rf
  obtain ⟨H, hHe⟩ : ∃ H : Heap, H = s.heap := ⟨_, rfl⟩
  have hS : va_S A s.heap H [] := by rw [hHe]; exact va_S.rf
  rw [← hHe] at hP
  suffices K0 : W p l e (headSpec wsL_echo ({ frames := 5, cells := 0, slots := 0, locals := 121 } : Room)).room s m args below meth c H [] 0 0 (MQ below (Qi9 D A [(h0, .inr (5, [.ref ai, .ref pu, .ref pa, .ref ga, .ref sc, .ref hi, .ref gr, .int (nI me), .int (nI dp), .int (bI up), .int (nI mi), .int (nI ru), .long wp, .long wl])), (hi, .inl (cI, 20, .inl (nA HI))), (ai, .inr (0, [.ref a1])), (a1, .inl (cI, 600, .inl (nA C))), (ou, .inl (cJ, 1, .inr (.inl (uN OU 0 (if ki < rch HI ev 20 0 then eb9 C me ki ev else -1)))))] (nI 0)) args s 0 0 A) (entryFrame m args 5) by rw [hHe] at K0; exact vx_ret K0
  refine W.eq (g2 := entryFrame m ([.ref h0, .int (nI ki), .int (nI ev), .ref ou] : List Value).toArray 5) (by rw [hargs]) ?_
  have hl := lv_entry ([.ref h0, .int (nI ki), .int (nI ev), .ref ou]) (n := 5) (Nat.le_of_ble_eq_true rfl)
  rw [lg_entry_eq]
  generalize (lg_sl ([.ref h0, .int (nI ki), .int (nI ev), .ref ou]) ++ List.replicate (5 - (lg_sl ([.ref h0, .int (nI ki), .int (nI ev), .ref ou])).length) Slot.unset).toArray = ls at hl ⊢
  have hl : lv_has ls 5 [(0, .ref h0), (1, .int (nI ki)), (2, .int (nI ev)), (3, .ref ou)] := hl
  generalize ([] : List Loc) = locs at hS ⊢
  refine lv_aload_n hx hb dL_echo_0 rfl (lv_at hl 3 rfl) ?_
  refine lv_iconst (v := nI 0) hx hb dL_echo_1 (by decide) ?_
  refine lv_aload_n hx hb dL_echo_2 rfl (lv_at hl 0 rfl) ?_
  refine lv_iload_n hx hb dL_echo_3 rfl (lv_at hl 1 rfl) ?_
  refine lv_iload_n hx hb dL_echo_4 rfl (lv_at hl 2 rfl) ?_
  refine cr_l (wc := [(h0, .inr (5, [.ref ai, .ref pu, .ref pa, .ref ga, .ref sc, .ref hi, .ref gr, .int (nI me), .int (nI dp), .int (bI up), .int (nI mi), .int (nI ru), .long wp, .long wl])), (hi, .inl (cI, 20, .inl (nA HI))), (ai, .inr (0, [.ref a1])), (a1, .inl (cI, 600, .inl (nA C)))]) (w1 := [(h0, .inr (5, [.ref ai, .ref pu, .ref pa, .ref ga, .ref sc, .ref hi, .ref gr, .int (nI me), .int (nI dp), .int (bI up), .int (nI mi), .int (nI ru), .long wp, .long wl])), (hi, .inl (cI, 20, .inl (nA HI))), (ai, .inr (0, [.ref a1])), (a1, .inl (cI, 600, .inl (nA C)))]) (ws2 := [(h0, .inr (5, [.ref ai, .ref pu, .ref pa, .ref ga, .ref sc, .ref hi, .ref gr, .int (nI me), .int (nI dp), .int (bI up), .int (nI mi), .int (nI ru), .long wp, .long wl])), (hi, .inl (cI, 20, .inl (nA HI))), (ai, .inr (0, [.ref a1])), (a1, .inl (cI, 600, .inl (nA C))), (ou, .inl (cJ, 1, .inr (.inl OU)))]) hP hD hS hA [0, 1, 2, 3] rfl rfl rfl (va_runV (As := [.int (nI ki), .int (nI ev)]) (rest := [.int (nI 0), .ref ou]) ⟨hx, hb, hml, hown, hts⟩ (c_X5_echo l D cI cJ cZ h0 ai pu pa ga sc hi gr me dp up mi ru wp wl HI a1 C ki ev (by assumption) (by assumption) (by assumption) (by assumption) H.size) (cwV 2 hts gL_echo_X5_echo rfl rfl rfl (by decide +kernel) ⟨Nat.le_of_ble_eq_true rfl, Nat.le_of_ble_eq_true rfl⟩) (pvV hT hP hD [0, 1, 2, 3] rfl rfl 0 rfl rfl) rfl rfl hl.1 rfl (lv_room (Nat.le_of_ble_eq_true rfl)) dL_echo_5 ⟨Nat.zero_le _, Nat.zero_le _⟩) (fun H locs hP hD hS => ?_)
  refine ast_L (x := if ki < rch HI ev 20 0 then eb9 C me ki ev else -1) hx hb hK hP hD hS 4 1 rfl rfl 0 rfl (by omega) (Nat.le_of_ble_eq_true rfl) dL_echo_8 (fun H locs hP hD hS => ?_)
  have hP : va_P D vwCl [(h0, .inr (5, [.ref ai, .ref pu, .ref pa, .ref ga, .ref sc, .ref hi, .ref gr, .int (nI me), .int (nI dp), .int (bI up), .int (nI mi), .int (nI ru), .long wp, .long wl])), (hi, .inl (cI, 20, .inl (nA HI))), (ai, .inr (0, [.ref a1])), (a1, .inl (cI, 600, .inl (nA C))), (ou, .inl (cJ, 1, .inr (.inl (uN OU 0 (if ki < rch HI ev 20 0 then eb9 C me ki ev else -1)))))] H := hP
  have hD : va_D A [(h0, .inr (5, [.ref ai, .ref pu, .ref pa, .ref ga, .ref sc, .ref hi, .ref gr, .int (nI me), .int (nI dp), .int (bI up), .int (nI mi), .int (nI ru), .long wp, .long wl])), (hi, .inl (cI, 20, .inl (nA HI))), (ai, .inr (0, [.ref a1])), (a1, .inl (cI, 600, .inl (nA C))), (ou, .inl (cJ, 1, .inr (.inl (uN OU 0 (if ki < rch HI ev 20 0 then eb9 C me ki ev else -1)))))] := hD
  refine lv_goto (tgt := 20) hx hb dL_echo_9 (by decide) ?_
  refine lv_iconst (v := nI 0) hx hb dL_echo_20 (by decide) ?_
  exact fin_i hx hb hr hlocks hP hD hS (rfl) dL_echo_21
set_option maxHeartbeats 4000000 in
set_option maxRecDepth 100000 in
theorem w_L_scan (l : Launch) (D : va_G) (cI cJ cZ : ClassId) (h0 : Nat) (ai : Nat) (pu : Nat) (pa : Nat) (ga : Nat) (sc : Nat) (hi : Nat) (gr : Nat) (me : Nat) (dp : Nat) (up : Bool) (mi : Nat) (ru : Nat) (wp : Int64) (wl : Int64) (HI : Nat → Nat) (a1 : Nat) (C : Nat → Nat) (s1 : Nat) (s2 : Nat) (EC : Nat → Int64) (RU : Nat → Nat) (sm : Nat) (ev : Nat) (ou : Nat) (OU : Nat → Int64) (hev : ev < 4) (hme : me < 10) (hsm : sm < 30) (hHI : ∀ k, k < 20 → HI k ≤ 9) (sz : Nat) : vx_Met l yL_scan wsL_scan ({ frames := 5, cells := 0, slots := 0, locals := 122 } : Room) (va_Pc [.ref h0, .int (nI ev), .ref ou] (mPre D cI cJ cZ [(h0, .inr (5, [.ref ai, .ref pu, .ref pa, .ref ga, .ref sc, .ref hi, .ref gr, .int (nI me), .int (nI dp), .int (bI up), .int (nI mi), .int (nI ru), .long wp, .long wl])), (hi, .inl (cI, 20, .inl (nA HI))), (ai, .inr (0, [.ref a1])), (a1, .inl (cI, 600, .inl (nA C))), (sc, .inr (4, [.ref s1, .ref s2, .int (nI sm)])), (s1, .inl (cJ, 600, .inr (.inl EC))), (s2, .inl (cI, 30, .inl (nA RU))), (ou, .inl (cJ, 1, .inr (.inl OU)))] sz)) (Qi9 D (va_A [(h0, .inr (5, [.ref ai, .ref pu, .ref pa, .ref ga, .ref sc, .ref hi, .ref gr, .int (nI me), .int (nI dp), .int (bI up), .int (nI mi), .int (nI ru), .long wp, .long wl])), (hi, .inl (cI, 20, .inl (nA HI))), (ai, .inr (0, [.ref a1])), (a1, .inl (cI, 600, .inl (nA C))), (sc, .inr (4, [.ref s1, .ref s2, .int (nI sm)])), (s1, .inl (cJ, 600, .inr (.inl EC))), (s2, .inl (cI, 30, .inl (nA RU))), (ou, .inl (cJ, 1, .inr (.inl OU)))] sz) [(h0, .inr (5, [.ref ai, .ref pu, .ref pa, .ref ga, .ref sc, .ref hi, .ref gr, .int (nI me), .int (nI dp), .int (bI up), .int (nI mi), .int (nI ru), .long wp, .long wl])), (hi, .inl (cI, 20, .inl (nA HI))), (ai, .inr (0, [.ref a1])), (a1, .inl (cI, 600, .inl (nA C))), (sc, .inr (4, [.ref s1, .ref s2, .int (nI (sm + 1))])), (s1, .inl (cJ, 600, .inr (.inl (scE C me ev EC sm (rch HI ev 20 0))))), (s2, .inl (cI, 30, .inl (nA (uN RU sm ru)))), (ou, .inl (cJ, 1, .inr (.inl (uN OU 0 ((nI (rch HI ev 20 0)).toInt64)))))] (nI 0)) XN 0 0 (va_A [(h0, .inr (5, [.ref ai, .ref pu, .ref pa, .ref ga, .ref sc, .ref hi, .ref gr, .int (nI me), .int (nI dp), .int (bI up), .int (nI mi), .int (nI ru), .long wp, .long wl])), (hi, .inl (cI, 20, .inl (nA HI))), (ai, .inr (0, [.ref a1])), (a1, .inl (cI, 600, .inl (nA C))), (sc, .inr (4, [.ref s1, .ref s2, .int (nI sm)])), (s1, .inl (cJ, 600, .inr (.inl EC))), (s2, .inl (cI, 30, .inl (nA RU))), (ou, .inl (cJ, 1, .inr (.inl OU)))] sz) := by
  refine vx_ofWH (hh := [(0, 9, 12, 15), (0, 9, 15, 17)]) (cc := cL_scan) (maxL := 4) (ret := (some .int)) (by decide) rfl ?_
  intro p e s m args below meth c s₁ B hml hv
  obtain ⟨hargs, hsz, hP, hT, hD0⟩ := hv
  have hx := B.exec
  have hb := B.bytes
  have hr := B.returns
  have hts := atoms_spec (ws := wsL_scan) B.pre
  have hown : s.vm.findClass RL = some m.cls := findClass_of_methodNamed B.named
  have hlocks := B.notSynchronized
  subst hsz
  have hK := hT.1
  have hD := hD0.self (sz := s.heap.size)
  generalize hAe : va_A [(h0, .inr (5, [.ref ai, .ref pu, .ref pa, .ref ga, .ref sc, .ref hi, .ref gr, .int (nI me), .int (nI dp), .int (bI up), .int (nI mi), .int (nI ru), .long wp, .long wl])), (hi, .inl (cI, 20, .inl (nA HI))), (ai, .inr (0, [.ref a1])), (a1, .inl (cI, 600, .inl (nA C))), (sc, .inr (4, [.ref s1, .ref s2, .int (nI sm)])), (s1, .inl (cJ, 600, .inr (.inl EC))), (s2, .inl (cI, 30, .inl (nA RU))), (ou, .inl (cJ, 1, .inr (.inl OU)))] s.heap.size = A at hD ⊢
  have hA : ∀ q : Nat, s.heap.size ≤ q → A q := fun q h => by rw [← hAe]; exact Or.inr h
  have hS : va_S A s.heap s.heap [] := va_S.rf
  obtain ⟨H, hHe⟩ : ∃ H : Heap, H = s.heap := ⟨_, rfl⟩
  have hS : va_S A s.heap H [] := by rw [hHe]; exact va_S.rf
  rw [← hHe] at hP
  suffices K0 : W p l e (headSpec wsL_scan ({ frames := 5, cells := 0, slots := 0, locals := 122 } : Room)).room s m args below meth c H [] 0 0 (MQ below (Qi9 D A [(h0, .inr (5, [.ref ai, .ref pu, .ref pa, .ref ga, .ref sc, .ref hi, .ref gr, .int (nI me), .int (nI dp), .int (bI up), .int (nI mi), .int (nI ru), .long wp, .long wl])), (hi, .inl (cI, 20, .inl (nA HI))), (ai, .inr (0, [.ref a1])), (a1, .inl (cI, 600, .inl (nA C))), (sc, .inr (4, [.ref s1, .ref s2, .int (nI (sm + 1))])), (s1, .inl (cJ, 600, .inr (.inl (scE C me ev EC sm (rch HI ev 20 0))))), (s2, .inl (cI, 30, .inl (nA (uN RU sm ru)))), (ou, .inl (cJ, 1, .inr (.inl (uN OU 0 ((nI (rch HI ev 20 0)).toInt64)))))] (nI 0)) args s 0 0 A) (entryFrame m args 4) by rw [hHe] at K0; exact vx_ret K0
  refine W.eq (g2 := entryFrame m ([.ref h0, .int (nI ev), .ref ou] : List Value).toArray 4) (by rw [hargs]) ?_
  have hl := lv_entry ([.ref h0, .int (nI ev), .ref ou]) (n := 4) (Nat.le_of_ble_eq_true rfl)
  rw [lg_entry_eq]
  generalize (lg_sl ([.ref h0, .int (nI ev), .ref ou]) ++ List.replicate (4 - (lg_sl ([.ref h0, .int (nI ev), .ref ou])).length) Slot.unset).toArray = ls at hl ⊢
  have hl : lv_has ls 4 [(0, .ref h0), (1, .int (nI ev)), (2, .ref ou)] := hl
  generalize ([] : List Loc) = locs at hS ⊢
  refine lv_aload_n hx hb dL_scan_0 rfl (lv_at hl 2 rfl) ?_
  refine lv_iconst (v := nI 0) hx hb dL_scan_1 (by decide) ?_
  refine lv_aload_n hx hb dL_scan_2 rfl (lv_at hl 0 rfl) ?_
  refine lv_iload_n hx hb dL_scan_3 rfl (lv_at hl 1 rfl) ?_
  refine cr_i (wc := [(h0, .inr (5, [.ref ai, .ref pu, .ref pa, .ref ga, .ref sc, .ref hi, .ref gr, .int (nI me), .int (nI dp), .int (bI up), .int (nI mi), .int (nI ru), .long wp, .long wl])), (hi, .inl (cI, 20, .inl (nA HI))), (ai, .inr (0, [.ref a1])), (a1, .inl (cI, 600, .inl (nA C))), (sc, .inr (4, [.ref s1, .ref s2, .int (nI sm)])), (s1, .inl (cJ, 600, .inr (.inl EC))), (s2, .inl (cI, 30, .inl (nA RU)))]) (w1 := [(h0, .inr (5, [.ref ai, .ref pu, .ref pa, .ref ga, .ref sc, .ref hi, .ref gr, .int (nI me), .int (nI dp), .int (bI up), .int (nI mi), .int (nI ru), .long wp, .long wl])), (hi, .inl (cI, 20, .inl (nA HI))), (ai, .inr (0, [.ref a1])), (a1, .inl (cI, 600, .inl (nA C))), (sc, .inr (4, [.ref s1, .ref s2, .int (nI (sm + 1))])), (s1, .inl (cJ, 600, .inr (.inl (scE C me ev EC sm (rch HI ev 20 0))))), (s2, .inl (cI, 30, .inl (nA (uN RU sm ru))))]) (ws2 := [(h0, .inr (5, [.ref ai, .ref pu, .ref pa, .ref ga, .ref sc, .ref hi, .ref gr, .int (nI me), .int (nI dp), .int (bI up), .int (nI mi), .int (nI ru), .long wp, .long wl])), (hi, .inl (cI, 20, .inl (nA HI))), (ai, .inr (0, [.ref a1])), (a1, .inl (cI, 600, .inl (nA C))), (sc, .inr (4, [.ref s1, .ref s2, .int (nI (sm + 1))])), (s1, .inl (cJ, 600, .inr (.inl (scE C me ev EC sm (rch HI ev 20 0))))), (s2, .inl (cI, 30, .inl (nA (uN RU sm ru)))), (ou, .inl (cJ, 1, .inr (.inl OU)))]) hP hD hS hA [0, 1, 2, 3, 4, 5, 6] rfl rfl rfl (va_runV (As := [.int (nI ev)]) (rest := [.int (nI 0), .ref ou]) ⟨hx, hb, hml, hown, hts⟩ (c_X5_scan l D cI cJ cZ h0 ai pu pa ga sc hi gr me dp up mi ru wp wl HI a1 C s1 s2 EC RU sm ev (by assumption) (by assumption) (by assumption) (by assumption) H.size) (cwV 1 hts gL_scan_X5_scan rfl rfl rfl (by decide +kernel) ⟨Nat.le_of_ble_eq_true rfl, Nat.le_of_ble_eq_true rfl⟩) (pvV hT hP hD [0, 1, 2, 3, 4, 5, 6] rfl rfl 0 rfl rfl) rfl rfl hl.1 rfl (lv_room (Nat.le_of_ble_eq_true rfl)) dL_scan_4 ⟨Nat.zero_le _, Nat.zero_le _⟩) (fun H locs hP hD hS => ?_)
  refine lv_i2l (v := (nI (rch HI ev 20 0)).toInt64) hx hb dL_scan_7 rfl ?_
  refine ast_L (x := (nI (rch HI ev 20 0)).toInt64) hx hb hK hP hD hS 7 1 rfl rfl 0 rfl (by omega) (Nat.le_of_ble_eq_true rfl) dL_scan_8 (fun H locs hP hD hS => ?_)
  have hP : va_P D vwCl [(h0, .inr (5, [.ref ai, .ref pu, .ref pa, .ref ga, .ref sc, .ref hi, .ref gr, .int (nI me), .int (nI dp), .int (bI up), .int (nI mi), .int (nI ru), .long wp, .long wl])), (hi, .inl (cI, 20, .inl (nA HI))), (ai, .inr (0, [.ref a1])), (a1, .inl (cI, 600, .inl (nA C))), (sc, .inr (4, [.ref s1, .ref s2, .int (nI (sm + 1))])), (s1, .inl (cJ, 600, .inr (.inl (scE C me ev EC sm (rch HI ev 20 0))))), (s2, .inl (cI, 30, .inl (nA (uN RU sm ru)))), (ou, .inl (cJ, 1, .inr (.inl (uN OU 0 ((nI (rch HI ev 20 0)).toInt64)))))] H := hP
  have hD : va_D A [(h0, .inr (5, [.ref ai, .ref pu, .ref pa, .ref ga, .ref sc, .ref hi, .ref gr, .int (nI me), .int (nI dp), .int (bI up), .int (nI mi), .int (nI ru), .long wp, .long wl])), (hi, .inl (cI, 20, .inl (nA HI))), (ai, .inr (0, [.ref a1])), (a1, .inl (cI, 600, .inl (nA C))), (sc, .inr (4, [.ref s1, .ref s2, .int (nI (sm + 1))])), (s1, .inl (cJ, 600, .inr (.inl (scE C me ev EC sm (rch HI ev 20 0))))), (s2, .inl (cI, 30, .inl (nA (uN RU sm ru)))), (ou, .inl (cJ, 1, .inr (.inl (uN OU 0 ((nI (rch HI ev 20 0)).toInt64)))))] := hD
  refine lv_goto (tgt := 18) hx hb dL_scan_9 (by decide) ?_
  refine lv_iconst (v := nI 0) hx hb dL_scan_18 (by decide) ?_
  exact fin_i hx hb hr hlocks hP hD hS (rfl) dL_scan_19
set_option maxHeartbeats 4000000 in
set_option maxRecDepth 100000 in
theorem w_L_rain (l : Launch) (D : va_G) (cI cJ cZ : ClassId) (h0 : Nat) (ai : Nat) (pu : Nat) (pa : Nat) (ga : Nat) (sc : Nat) (hi : Nat) (gr : Nat) (me : Nat) (dp : Nat) (up : Bool) (mi : Nat) (ru : Nat) (wp : Int64) (wl : Int64) (s1 : Nat) (s2 : Nat) (EC : Nat → Int64) (RU : Nat → Nat) (sm : Nat) (ki : Nat) (ou : Nat) (OU : Nat → Int64) (hki : ki < 20) (hsm : sm ≤ 30) (hRU : ∀ k, k < sm → 1 ≤ RU k ∧ RU k ≤ 1000) (sz : Nat) : vx_Met l yL_rain wsL_rain ({ frames := 3, cells := 0, slots := 0, locals := 69 } : Room) (va_Pc [.ref h0, .int (nI ki), .ref ou] (mPre D cI cJ cZ [(h0, .inr (5, [.ref ai, .ref pu, .ref pa, .ref ga, .ref sc, .ref hi, .ref gr, .int (nI me), .int (nI dp), .int (bI up), .int (nI mi), .int (nI ru), .long wp, .long wl])), (sc, .inr (4, [.ref s1, .ref s2, .int (nI sm)])), (s1, .inl (cJ, 600, .inr (.inl EC))), (s2, .inl (cI, 30, .inl (nA RU))), (ou, .inl (cJ, 1, .inr (.inl OU)))] sz)) (Qi9 D (va_A [(h0, .inr (5, [.ref ai, .ref pu, .ref pa, .ref ga, .ref sc, .ref hi, .ref gr, .int (nI me), .int (nI dp), .int (bI up), .int (nI mi), .int (nI ru), .long wp, .long wl])), (sc, .inr (4, [.ref s1, .ref s2, .int (nI sm)])), (s1, .inl (cJ, 600, .inr (.inl EC))), (s2, .inl (cI, 30, .inl (nA RU))), (ou, .inl (cJ, 1, .inr (.inl OU)))] sz) [(h0, .inr (5, [.ref ai, .ref pu, .ref pa, .ref ga, .ref sc, .ref hi, .ref gr, .int (nI me), .int (nI dp), .int (bI up), .int (nI mi), .int (nI ru), .long wp, .long wl])), (sc, .inr (4, [.ref s1, .ref s2, .int (nI sm)])), (s1, .inl (cJ, 600, .inr (.inl EC))), (s2, .inl (cI, 30, .inl (nA RU))), (ou, .inl (cJ, 1, .inr (.inl (uN OU 0 (rnS EC RU ki sm)))))] (nI 0)) XN 0 0 (va_A [(h0, .inr (5, [.ref ai, .ref pu, .ref pa, .ref ga, .ref sc, .ref hi, .ref gr, .int (nI me), .int (nI dp), .int (bI up), .int (nI mi), .int (nI ru), .long wp, .long wl])), (sc, .inr (4, [.ref s1, .ref s2, .int (nI sm)])), (s1, .inl (cJ, 600, .inr (.inl EC))), (s2, .inl (cI, 30, .inl (nA RU))), (ou, .inl (cJ, 1, .inr (.inl OU)))] sz) := by
  refine vx_ofWH (hh := [(0, 8, 11, 13)]) (cc := cL_rain) (maxL := 4) (ret := (some .int)) (by decide) rfl ?_
  intro p e s m args below meth c s₁ B hml hv
  obtain ⟨hargs, hsz, hP, hT, hD0⟩ := hv
  have hx := B.exec
  have hb := B.bytes
  have hr := B.returns
  have hts := atoms_spec (ws := wsL_rain) B.pre
  have hown : s.vm.findClass RL = some m.cls := findClass_of_methodNamed B.named
  have hlocks := B.notSynchronized
  subst hsz
  have hK := hT.1
  have hD := hD0.self (sz := s.heap.size)
  generalize hAe : va_A [(h0, .inr (5, [.ref ai, .ref pu, .ref pa, .ref ga, .ref sc, .ref hi, .ref gr, .int (nI me), .int (nI dp), .int (bI up), .int (nI mi), .int (nI ru), .long wp, .long wl])), (sc, .inr (4, [.ref s1, .ref s2, .int (nI sm)])), (s1, .inl (cJ, 600, .inr (.inl EC))), (s2, .inl (cI, 30, .inl (nA RU))), (ou, .inl (cJ, 1, .inr (.inl OU)))] s.heap.size = A at hD ⊢
  have hA : ∀ q : Nat, s.heap.size ≤ q → A q := fun q h => by rw [← hAe]; exact Or.inr h
  have hS : va_S A s.heap s.heap [] := va_S.rf
  obtain ⟨H, hHe⟩ : ∃ H : Heap, H = s.heap := ⟨_, rfl⟩
  have hS : va_S A s.heap H [] := by rw [hHe]; exact va_S.rf
  rw [← hHe] at hP
  suffices K0 : W p l e (headSpec wsL_rain ({ frames := 3, cells := 0, slots := 0, locals := 69 } : Room)).room s m args below meth c H [] 0 0 (MQ below (Qi9 D A [(h0, .inr (5, [.ref ai, .ref pu, .ref pa, .ref ga, .ref sc, .ref hi, .ref gr, .int (nI me), .int (nI dp), .int (bI up), .int (nI mi), .int (nI ru), .long wp, .long wl])), (sc, .inr (4, [.ref s1, .ref s2, .int (nI sm)])), (s1, .inl (cJ, 600, .inr (.inl EC))), (s2, .inl (cI, 30, .inl (nA RU))), (ou, .inl (cJ, 1, .inr (.inl (uN OU 0 (rnS EC RU ki sm)))))] (nI 0)) args s 0 0 A) (entryFrame m args 4) by rw [hHe] at K0; exact vx_ret K0
  refine W.eq (g2 := entryFrame m ([.ref h0, .int (nI ki), .ref ou] : List Value).toArray 4) (by rw [hargs]) ?_
  have hl := lv_entry ([.ref h0, .int (nI ki), .ref ou]) (n := 4) (Nat.le_of_ble_eq_true rfl)
  rw [lg_entry_eq]
  generalize (lg_sl ([.ref h0, .int (nI ki), .ref ou]) ++ List.replicate (4 - (lg_sl ([.ref h0, .int (nI ki), .ref ou])).length) Slot.unset).toArray = ls at hl ⊢
  have hl : lv_has ls 4 [(0, .ref h0), (1, .int (nI ki)), (2, .ref ou)] := hl
  generalize ([] : List Loc) = locs at hS ⊢
  refine lv_aload_n hx hb dL_rain_0 rfl (lv_at hl 2 rfl) ?_
  refine lv_iconst (v := nI 0) hx hb dL_rain_1 (by decide) ?_
  refine lv_aload_n hx hb dL_rain_2 rfl (lv_at hl 0 rfl) ?_
  refine lv_iload_n hx hb dL_rain_3 rfl (lv_at hl 1 rfl) ?_
  refine cr_l (wc := [(h0, .inr (5, [.ref ai, .ref pu, .ref pa, .ref ga, .ref sc, .ref hi, .ref gr, .int (nI me), .int (nI dp), .int (bI up), .int (nI mi), .int (nI ru), .long wp, .long wl])), (sc, .inr (4, [.ref s1, .ref s2, .int (nI sm)])), (s1, .inl (cJ, 600, .inr (.inl EC))), (s2, .inl (cI, 30, .inl (nA RU)))]) (w1 := [(h0, .inr (5, [.ref ai, .ref pu, .ref pa, .ref ga, .ref sc, .ref hi, .ref gr, .int (nI me), .int (nI dp), .int (bI up), .int (nI mi), .int (nI ru), .long wp, .long wl])), (sc, .inr (4, [.ref s1, .ref s2, .int (nI sm)])), (s1, .inl (cJ, 600, .inr (.inl EC))), (s2, .inl (cI, 30, .inl (nA RU)))]) (ws2 := [(h0, .inr (5, [.ref ai, .ref pu, .ref pa, .ref ga, .ref sc, .ref hi, .ref gr, .int (nI me), .int (nI dp), .int (bI up), .int (nI mi), .int (nI ru), .long wp, .long wl])), (sc, .inr (4, [.ref s1, .ref s2, .int (nI sm)])), (s1, .inl (cJ, 600, .inr (.inl EC))), (s2, .inl (cI, 30, .inl (nA RU))), (ou, .inl (cJ, 1, .inr (.inl OU)))]) hP hD hS hA [0, 1, 2, 3] rfl rfl rfl (va_runV (As := [.int (nI ki)]) (rest := [.int (nI 0), .ref ou]) ⟨hx, hb, hml, hown, hts⟩ (c_X5_rain l D cI cJ cZ h0 ai pu pa ga sc hi gr me dp up mi ru wp wl s1 s2 EC RU sm ki (by assumption) (by assumption) (by assumption) H.size) (cwV 1 hts gL_rain_X5_rain rfl rfl rfl (by decide +kernel) ⟨Nat.le_of_ble_eq_true rfl, Nat.le_of_ble_eq_true rfl⟩) (pvV hT hP hD [0, 1, 2, 3] rfl rfl 0 rfl rfl) rfl rfl hl.1 rfl (lv_room (Nat.le_of_ble_eq_true rfl)) dL_rain_4 ⟨Nat.zero_le _, Nat.zero_le _⟩) (fun H locs hP hD hS => ?_)
  refine ast_L (x := rnS EC RU ki sm) hx hb hK hP hD hS 4 1 rfl rfl 0 rfl (by omega) (Nat.le_of_ble_eq_true rfl) dL_rain_7 (fun H locs hP hD hS => ?_)
  have hP : va_P D vwCl [(h0, .inr (5, [.ref ai, .ref pu, .ref pa, .ref ga, .ref sc, .ref hi, .ref gr, .int (nI me), .int (nI dp), .int (bI up), .int (nI mi), .int (nI ru), .long wp, .long wl])), (sc, .inr (4, [.ref s1, .ref s2, .int (nI sm)])), (s1, .inl (cJ, 600, .inr (.inl EC))), (s2, .inl (cI, 30, .inl (nA RU))), (ou, .inl (cJ, 1, .inr (.inl (uN OU 0 (rnS EC RU ki sm)))))] H := hP
  have hD : va_D A [(h0, .inr (5, [.ref ai, .ref pu, .ref pa, .ref ga, .ref sc, .ref hi, .ref gr, .int (nI me), .int (nI dp), .int (bI up), .int (nI mi), .int (nI ru), .long wp, .long wl])), (sc, .inr (4, [.ref s1, .ref s2, .int (nI sm)])), (s1, .inl (cJ, 600, .inr (.inl EC))), (s2, .inl (cI, 30, .inl (nA RU))), (ou, .inl (cJ, 1, .inr (.inl (uN OU 0 (rnS EC RU ki sm)))))] := hD
  refine lv_goto (tgt := 14) hx hb dL_rain_8 (by decide) ?_
  refine lv_iconst (v := nI 0) hx hb dL_rain_14 (by decide) ?_
  exact fin_i hx hb hr hlocks hP hD hS (rfl) dL_rain_15
set_option maxHeartbeats 4000000 in
set_option maxRecDepth 100000 in
theorem w_L_rainBy (l : Launch) (D : va_G) (cI cJ cZ : ClassId) (h0 : Nat) (ai : Nat) (pu : Nat) (pa : Nat) (ga : Nat) (sc : Nat) (hi : Nat) (gr : Nat) (me : Nat) (dp : Nat) (up : Bool) (mi : Nat) (ru : Nat) (wp : Int64) (wl : Int64) (s1 : Nat) (s2 : Nat) (EC : Nat → Int64) (RU : Nat → Nat) (sm : Nat) (ki : Nat) (rr : Nat) (ou : Nat) (OU : Nat → Int64) (hki : ki < 20) (hr1 : 1 ≤ rr) (hr2 : rr ≤ 1000) (hsm : sm ≤ 30) (sz : Nat) : vx_Met l yL_rainBy wsL_rainBy ({ frames := 3, cells := 0, slots := 0, locals := 70 } : Room) (va_Pc [.ref h0, .int (nI ki), .int (nI rr), .ref ou] (mPre D cI cJ cZ [(h0, .inr (5, [.ref ai, .ref pu, .ref pa, .ref ga, .ref sc, .ref hi, .ref gr, .int (nI me), .int (nI dp), .int (bI up), .int (nI mi), .int (nI ru), .long wp, .long wl])), (sc, .inr (4, [.ref s1, .ref s2, .int (nI sm)])), (s1, .inl (cJ, 600, .inr (.inl EC))), (s2, .inl (cI, 30, .inl (nA RU))), (ou, .inl (cJ, 1, .inr (.inl OU)))] sz)) (Qi9 D (va_A [(h0, .inr (5, [.ref ai, .ref pu, .ref pa, .ref ga, .ref sc, .ref hi, .ref gr, .int (nI me), .int (nI dp), .int (bI up), .int (nI mi), .int (nI ru), .long wp, .long wl])), (sc, .inr (4, [.ref s1, .ref s2, .int (nI sm)])), (s1, .inl (cJ, 600, .inr (.inl EC))), (s2, .inl (cI, 30, .inl (nA RU))), (ou, .inl (cJ, 1, .inr (.inl OU)))] sz) [(h0, .inr (5, [.ref ai, .ref pu, .ref pa, .ref ga, .ref sc, .ref hi, .ref gr, .int (nI me), .int (nI dp), .int (bI up), .int (nI mi), .int (nI ru), .long wp, .long wl])), (sc, .inr (4, [.ref s1, .ref s2, .int (nI sm)])), (s1, .inl (cJ, 600, .inr (.inl EC))), (s2, .inl (cI, 30, .inl (nA RU))), (ou, .inl (cJ, 1, .inr (.inl (uN OU 0 (rnS EC (fun _ => rr) ki sm)))))] (nI 0)) XN 0 0 (va_A [(h0, .inr (5, [.ref ai, .ref pu, .ref pa, .ref ga, .ref sc, .ref hi, .ref gr, .int (nI me), .int (nI dp), .int (bI up), .int (nI mi), .int (nI ru), .long wp, .long wl])), (sc, .inr (4, [.ref s1, .ref s2, .int (nI sm)])), (s1, .inl (cJ, 600, .inr (.inl EC))), (s2, .inl (cI, 30, .inl (nA RU))), (ou, .inl (cJ, 1, .inr (.inl OU)))] sz) := by
  refine vx_ofWH (hh := [(0, 9, 12, 13), (0, 9, 16, 15)]) (cc := cL_rainBy) (maxL := 5) (ret := (some .int)) (by decide) rfl ?_
  intro p e s m args below meth c s₁ B hml hv
  obtain ⟨hargs, hsz, hP, hT, hD0⟩ := hv
  have hx := B.exec
  have hb := B.bytes
  have hr := B.returns
  have hts := atoms_spec (ws := wsL_rainBy) B.pre
  have hown : s.vm.findClass RL = some m.cls := findClass_of_methodNamed B.named
  have hlocks := B.notSynchronized
  subst hsz
  have hK := hT.1
  have hD := hD0.self (sz := s.heap.size)
  generalize hAe : va_A [(h0, .inr (5, [.ref ai, .ref pu, .ref pa, .ref ga, .ref sc, .ref hi, .ref gr, .int (nI me), .int (nI dp), .int (bI up), .int (nI mi), .int (nI ru), .long wp, .long wl])), (sc, .inr (4, [.ref s1, .ref s2, .int (nI sm)])), (s1, .inl (cJ, 600, .inr (.inl EC))), (s2, .inl (cI, 30, .inl (nA RU))), (ou, .inl (cJ, 1, .inr (.inl OU)))] s.heap.size = A at hD ⊢
  have hA : ∀ q : Nat, s.heap.size ≤ q → A q := fun q h => by rw [← hAe]; exact Or.inr h
  have hS : va_S A s.heap s.heap [] := va_S.rf
  obtain ⟨H, hHe⟩ : ∃ H : Heap, H = s.heap := ⟨_, rfl⟩
  have hS : va_S A s.heap H [] := by rw [hHe]; exact va_S.rf
  rw [← hHe] at hP
  suffices K0 : W p l e (headSpec wsL_rainBy ({ frames := 3, cells := 0, slots := 0, locals := 70 } : Room)).room s m args below meth c H [] 0 0 (MQ below (Qi9 D A [(h0, .inr (5, [.ref ai, .ref pu, .ref pa, .ref ga, .ref sc, .ref hi, .ref gr, .int (nI me), .int (nI dp), .int (bI up), .int (nI mi), .int (nI ru), .long wp, .long wl])), (sc, .inr (4, [.ref s1, .ref s2, .int (nI sm)])), (s1, .inl (cJ, 600, .inr (.inl EC))), (s2, .inl (cI, 30, .inl (nA RU))), (ou, .inl (cJ, 1, .inr (.inl (uN OU 0 (rnS EC (fun _ => rr) ki sm)))))] (nI 0)) args s 0 0 A) (entryFrame m args 5) by rw [hHe] at K0; exact vx_ret K0
  refine W.eq (g2 := entryFrame m ([.ref h0, .int (nI ki), .int (nI rr), .ref ou] : List Value).toArray 5) (by rw [hargs]) ?_
  have hl := lv_entry ([.ref h0, .int (nI ki), .int (nI rr), .ref ou]) (n := 5) (Nat.le_of_ble_eq_true rfl)
  rw [lg_entry_eq]
  generalize (lg_sl ([.ref h0, .int (nI ki), .int (nI rr), .ref ou]) ++ List.replicate (5 - (lg_sl ([.ref h0, .int (nI ki), .int (nI rr), .ref ou])).length) Slot.unset).toArray = ls at hl ⊢
  have hl : lv_has ls 5 [(0, .ref h0), (1, .int (nI ki)), (2, .int (nI rr)), (3, .ref ou)] := hl
  generalize ([] : List Loc) = locs at hS ⊢
  refine lv_aload_n hx hb dL_rainBy_0 rfl (lv_at hl 3 rfl) ?_
  refine lv_iconst (v := nI 0) hx hb dL_rainBy_1 (by decide) ?_
  refine lv_aload_n hx hb dL_rainBy_2 rfl (lv_at hl 0 rfl) ?_
  refine lv_iload_n hx hb dL_rainBy_3 rfl (lv_at hl 1 rfl) ?_
  refine lv_iload_n hx hb dL_rainBy_4 rfl (lv_at hl 2 rfl) ?_
  refine cr_l (wc := [(h0, .inr (5, [.ref ai, .ref pu, .ref pa, .ref ga, .ref sc, .ref hi, .ref gr, .int (nI me), .int (nI dp), .int (bI up), .int (nI mi), .int (nI ru), .long wp, .long wl])), (sc, .inr (4, [.ref s1, .ref s2, .int (nI sm)])), (s1, .inl (cJ, 600, .inr (.inl EC))), (s2, .inl (cI, 30, .inl (nA RU)))]) (w1 := [(h0, .inr (5, [.ref ai, .ref pu, .ref pa, .ref ga, .ref sc, .ref hi, .ref gr, .int (nI me), .int (nI dp), .int (bI up), .int (nI mi), .int (nI ru), .long wp, .long wl])), (sc, .inr (4, [.ref s1, .ref s2, .int (nI sm)])), (s1, .inl (cJ, 600, .inr (.inl EC))), (s2, .inl (cI, 30, .inl (nA RU)))]) (ws2 := [(h0, .inr (5, [.ref ai, .ref pu, .ref pa, .ref ga, .ref sc, .ref hi, .ref gr, .int (nI me), .int (nI dp), .int (bI up), .int (nI mi), .int (nI ru), .long wp, .long wl])), (sc, .inr (4, [.ref s1, .ref s2, .int (nI sm)])), (s1, .inl (cJ, 600, .inr (.inl EC))), (s2, .inl (cI, 30, .inl (nA RU))), (ou, .inl (cJ, 1, .inr (.inl OU)))]) hP hD hS hA [0, 1, 2, 3] rfl rfl rfl (va_runV (As := [.int (nI ki), .int (nI rr)]) (rest := [.int (nI 0), .ref ou]) ⟨hx, hb, hml, hown, hts⟩ (c_X5_rainBy l D cI cJ cZ h0 ai pu pa ga sc hi gr me dp up mi ru wp wl s1 s2 EC RU sm ki rr (by assumption) (by assumption) (by assumption) (by assumption) H.size) (cwV 2 hts gL_rainBy_X5_rainBy rfl rfl rfl (by decide +kernel) ⟨Nat.le_of_ble_eq_true rfl, Nat.le_of_ble_eq_true rfl⟩) (pvV hT hP hD [0, 1, 2, 3] rfl rfl 0 rfl rfl) rfl rfl hl.1 rfl (lv_room (Nat.le_of_ble_eq_true rfl)) dL_rainBy_5 ⟨Nat.zero_le _, Nat.zero_le _⟩) (fun H locs hP hD hS => ?_)
  refine ast_L (x := rnS EC (fun _ => rr) ki sm) hx hb hK hP hD hS 4 1 rfl rfl 0 rfl (by omega) (Nat.le_of_ble_eq_true rfl) dL_rainBy_8 (fun H locs hP hD hS => ?_)
  have hP : va_P D vwCl [(h0, .inr (5, [.ref ai, .ref pu, .ref pa, .ref ga, .ref sc, .ref hi, .ref gr, .int (nI me), .int (nI dp), .int (bI up), .int (nI mi), .int (nI ru), .long wp, .long wl])), (sc, .inr (4, [.ref s1, .ref s2, .int (nI sm)])), (s1, .inl (cJ, 600, .inr (.inl EC))), (s2, .inl (cI, 30, .inl (nA RU))), (ou, .inl (cJ, 1, .inr (.inl (uN OU 0 (rnS EC (fun _ => rr) ki sm)))))] H := hP
  have hD : va_D A [(h0, .inr (5, [.ref ai, .ref pu, .ref pa, .ref ga, .ref sc, .ref hi, .ref gr, .int (nI me), .int (nI dp), .int (bI up), .int (nI mi), .int (nI ru), .long wp, .long wl])), (sc, .inr (4, [.ref s1, .ref s2, .int (nI sm)])), (s1, .inl (cJ, 600, .inr (.inl EC))), (s2, .inl (cI, 30, .inl (nA RU))), (ou, .inl (cJ, 1, .inr (.inl (uN OU 0 (rnS EC (fun _ => rr) ki sm)))))] := hD
  refine lv_goto (tgt := 20) hx hb dL_rainBy_9 (by decide) ?_
  refine lv_iconst (v := nI 0) hx hb dL_rainBy_20 (by decide) ?_
  exact fin_i hx hb hr hlocks hP hD hS (rfl) dL_rainBy_21
set_option maxHeartbeats 4000000 in
set_option maxRecDepth 100000 in
theorem w_L_motion (l : Launch) (D : va_G) (cI cJ cZ : ClassId) (h0 : Nat) (ai : Nat) (pu : Nat) (pa : Nat) (ga : Nat) (sc : Nat) (hi : Nat) (gr : Nat) (me : Nat) (dp : Nat) (up : Bool) (mi : Nat) (ru : Nat) (wp : Int64) (wl : Int64) (s1 : Nat) (s2 : Nat) (EC : Nat → Int64) (RU : Nat → Nat) (sm : Nat) (ou : Nat) (OU : Nat → Int64) (hs2 : 2 ≤ sm) (hsm : sm ≤ 30) (sz : Nat) : vx_Met l yL_motion wsL_motion ({ frames := 4, cells := 0, slots := 0, locals := 101 } : Room) (va_Pc [.ref h0, .ref ou] (mPre D cI cJ cZ [(h0, .inr (5, [.ref ai, .ref pu, .ref pa, .ref ga, .ref sc, .ref hi, .ref gr, .int (nI me), .int (nI dp), .int (bI up), .int (nI mi), .int (nI ru), .long wp, .long wl])), (sc, .inr (4, [.ref s1, .ref s2, .int (nI sm)])), (s1, .inl (cJ, 600, .inr (.inl EC))), (s2, .inl (cI, 30, .inl (nA RU))), (ou, .inl (cJ, 1, .inr (.inl OU)))] sz)) (Qi9 D (va_A [(h0, .inr (5, [.ref ai, .ref pu, .ref pa, .ref ga, .ref sc, .ref hi, .ref gr, .int (nI me), .int (nI dp), .int (bI up), .int (nI mi), .int (nI ru), .long wp, .long wl])), (sc, .inr (4, [.ref s1, .ref s2, .int (nI sm)])), (s1, .inl (cJ, 600, .inr (.inl EC))), (s2, .inl (cI, 30, .inl (nA RU))), (ou, .inl (cJ, 1, .inr (.inl OU)))] sz) [(h0, .inr (5, [.ref ai, .ref pu, .ref pa, .ref ga, .ref sc, .ref hi, .ref gr, .int (nI me), .int (nI dp), .int (bI up), .int (nI mi), .int (nI ru), .long wp, .long wl])), (sc, .inr (4, [.ref s1, .ref s2, .int (nI sm)])), (s1, .inl (cJ, 600, .inr (.inl EC))), (s2, .inl (cI, 30, .inl (nA RU))), (ou, .inl (cJ, 1, .inr (.inl (uN OU 0 ((zI (moB (fun zz => dfS EC sm zz 20) 3)).toInt64)))))] (nI 0)) XN 0 0 (va_A [(h0, .inr (5, [.ref ai, .ref pu, .ref pa, .ref ga, .ref sc, .ref hi, .ref gr, .int (nI me), .int (nI dp), .int (bI up), .int (nI mi), .int (nI ru), .long wp, .long wl])), (sc, .inr (4, [.ref s1, .ref s2, .int (nI sm)])), (s1, .inl (cJ, 600, .inr (.inl EC))), (s2, .inl (cI, 30, .inl (nA RU))), (ou, .inl (cJ, 1, .inr (.inl OU)))] sz) := by
  refine vx_ofWH (hh := [(0, 8, 11, 17)]) (cc := cL_motion) (maxL := 3) (ret := (some .int)) (by decide) rfl ?_
  intro p e s m args below meth c s₁ B hml hv
  obtain ⟨hargs, hsz, hP, hT, hD0⟩ := hv
  have hx := B.exec
  have hb := B.bytes
  have hr := B.returns
  have hts := atoms_spec (ws := wsL_motion) B.pre
  have hown : s.vm.findClass RL = some m.cls := findClass_of_methodNamed B.named
  have hlocks := B.notSynchronized
  subst hsz
  have hK := hT.1
  have hD := hD0.self (sz := s.heap.size)
  generalize hAe : va_A [(h0, .inr (5, [.ref ai, .ref pu, .ref pa, .ref ga, .ref sc, .ref hi, .ref gr, .int (nI me), .int (nI dp), .int (bI up), .int (nI mi), .int (nI ru), .long wp, .long wl])), (sc, .inr (4, [.ref s1, .ref s2, .int (nI sm)])), (s1, .inl (cJ, 600, .inr (.inl EC))), (s2, .inl (cI, 30, .inl (nA RU))), (ou, .inl (cJ, 1, .inr (.inl OU)))] s.heap.size = A at hD ⊢
  have hA : ∀ q : Nat, s.heap.size ≤ q → A q := fun q h => by rw [← hAe]; exact Or.inr h
  have hS : va_S A s.heap s.heap [] := va_S.rf
  obtain ⟨H, hHe⟩ : ∃ H : Heap, H = s.heap := ⟨_, rfl⟩
  have hS : va_S A s.heap H [] := by rw [hHe]; exact va_S.rf
  rw [← hHe] at hP
  suffices K0 : W p l e (headSpec wsL_motion ({ frames := 4, cells := 0, slots := 0, locals := 101 } : Room)).room s m args below meth c H [] 0 0 (MQ below (Qi9 D A [(h0, .inr (5, [.ref ai, .ref pu, .ref pa, .ref ga, .ref sc, .ref hi, .ref gr, .int (nI me), .int (nI dp), .int (bI up), .int (nI mi), .int (nI ru), .long wp, .long wl])), (sc, .inr (4, [.ref s1, .ref s2, .int (nI sm)])), (s1, .inl (cJ, 600, .inr (.inl EC))), (s2, .inl (cI, 30, .inl (nA RU))), (ou, .inl (cJ, 1, .inr (.inl (uN OU 0 ((zI (moB (fun zz => dfS EC sm zz 20) 3)).toInt64)))))] (nI 0)) args s 0 0 A) (entryFrame m args 3) by rw [hHe] at K0; exact vx_ret K0
  refine W.eq (g2 := entryFrame m ([.ref h0, .ref ou] : List Value).toArray 3) (by rw [hargs]) ?_
  have hl := lv_entry ([.ref h0, .ref ou]) (n := 3) (Nat.le_of_ble_eq_true rfl)
  rw [lg_entry_eq]
  generalize (lg_sl ([.ref h0, .ref ou]) ++ List.replicate (3 - (lg_sl ([.ref h0, .ref ou])).length) Slot.unset).toArray = ls at hl ⊢
  have hl : lv_has ls 3 [(0, .ref h0), (1, .ref ou)] := hl
  generalize ([] : List Loc) = locs at hS ⊢
  refine lv_aload_n hx hb dL_motion_0 rfl (lv_at hl 1 rfl) ?_
  refine lv_iconst (v := nI 0) hx hb dL_motion_1 (by decide) ?_
  refine lv_aload_n hx hb dL_motion_2 rfl (lv_at hl 0 rfl) ?_
  refine cr_i (wc := [(h0, .inr (5, [.ref ai, .ref pu, .ref pa, .ref ga, .ref sc, .ref hi, .ref gr, .int (nI me), .int (nI dp), .int (bI up), .int (nI mi), .int (nI ru), .long wp, .long wl])), (sc, .inr (4, [.ref s1, .ref s2, .int (nI sm)])), (s1, .inl (cJ, 600, .inr (.inl EC))), (s2, .inl (cI, 30, .inl (nA RU)))]) (w1 := [(h0, .inr (5, [.ref ai, .ref pu, .ref pa, .ref ga, .ref sc, .ref hi, .ref gr, .int (nI me), .int (nI dp), .int (bI up), .int (nI mi), .int (nI ru), .long wp, .long wl])), (sc, .inr (4, [.ref s1, .ref s2, .int (nI sm)])), (s1, .inl (cJ, 600, .inr (.inl EC))), (s2, .inl (cI, 30, .inl (nA RU)))]) (ws2 := [(h0, .inr (5, [.ref ai, .ref pu, .ref pa, .ref ga, .ref sc, .ref hi, .ref gr, .int (nI me), .int (nI dp), .int (bI up), .int (nI mi), .int (nI ru), .long wp, .long wl])), (sc, .inr (4, [.ref s1, .ref s2, .int (nI sm)])), (s1, .inl (cJ, 600, .inr (.inl EC))), (s2, .inl (cI, 30, .inl (nA RU))), (ou, .inl (cJ, 1, .inr (.inl OU)))]) hP hD hS hA [0, 1, 2, 3] rfl rfl rfl (va_runV (As := []) (rest := [.int (nI 0), .ref ou]) ⟨hx, hb, hml, hown, hts⟩ (c_X5_motion l D cI cJ cZ h0 ai pu pa ga sc hi gr me dp up mi ru wp wl s1 s2 EC RU sm (by assumption) (by assumption) H.size) (cwV 0 hts gL_motion_X5_motion rfl rfl rfl (by decide +kernel) ⟨Nat.le_of_ble_eq_true rfl, Nat.le_of_ble_eq_true rfl⟩) (pvV hT hP hD [0, 1, 2, 3] rfl rfl 0 rfl rfl) rfl rfl hl.1 rfl (lv_room (Nat.le_of_ble_eq_true rfl)) dL_motion_3 ⟨Nat.zero_le _, Nat.zero_le _⟩) (fun H locs hP hD hS => ?_)
  refine lv_i2l (v := (zI (moB (fun zz => dfS EC sm zz 20) 3)).toInt64) hx hb dL_motion_6 rfl ?_
  refine ast_L (x := (zI (moB (fun zz => dfS EC sm zz 20) 3)).toInt64) hx hb hK hP hD hS 4 1 rfl rfl 0 rfl (by omega) (Nat.le_of_ble_eq_true rfl) dL_motion_7 (fun H locs hP hD hS => ?_)
  have hP : va_P D vwCl [(h0, .inr (5, [.ref ai, .ref pu, .ref pa, .ref ga, .ref sc, .ref hi, .ref gr, .int (nI me), .int (nI dp), .int (bI up), .int (nI mi), .int (nI ru), .long wp, .long wl])), (sc, .inr (4, [.ref s1, .ref s2, .int (nI sm)])), (s1, .inl (cJ, 600, .inr (.inl EC))), (s2, .inl (cI, 30, .inl (nA RU))), (ou, .inl (cJ, 1, .inr (.inl (uN OU 0 ((zI (moB (fun zz => dfS EC sm zz 20) 3)).toInt64)))))] H := hP
  have hD : va_D A [(h0, .inr (5, [.ref ai, .ref pu, .ref pa, .ref ga, .ref sc, .ref hi, .ref gr, .int (nI me), .int (nI dp), .int (bI up), .int (nI mi), .int (nI ru), .long wp, .long wl])), (sc, .inr (4, [.ref s1, .ref s2, .int (nI sm)])), (s1, .inl (cJ, 600, .inr (.inl EC))), (s2, .inl (cI, 30, .inl (nA RU))), (ou, .inl (cJ, 1, .inr (.inl (uN OU 0 ((zI (moB (fun zz => dfS EC sm zz 20) 3)).toInt64)))))] := hD
  refine lv_goto (tgt := 14) hx hb dL_motion_8 (by decide) ?_
  refine lv_iconst (v := nI 0) hx hb dL_motion_14 (by decide) ?_
  exact fin_i hx hb hr hlocks hP hD hS (rfl) dL_motion_15
set_option maxHeartbeats 4000000 in
set_option maxRecDepth 100000 in
theorem w_L_collected (l : Launch) (D : va_G) (cI cJ cZ : ClassId) (h0 : Nat) (ai : Nat) (pu : Nat) (pa : Nat) (ga : Nat) (sc : Nat) (hi : Nat) (gr : Nat) (me : Nat) (dp : Nat) (up : Bool) (mi : Nat) (ru : Nat) (wp : Int64) (wl : Int64) (g1 : Nat) (g2 : Nat) (g3 : Nat) (UP : Nat → Bool) (CL : Nat → Bool) (CO : Nat → Int64) (ki : Nat) (ou : Nat) (OU : Nat → Int64) (hki : ki < 20) (hup : UP ki = true) (sz : Nat) : vx_Met l yL_collected wsL_collected ({ frames := 4, cells := 0, slots := 0, locals := 83 } : Room) (va_Pc [.ref h0, .int (nI ki), .ref ou] (mPre D cI cJ cZ [(h0, .inr (5, [.ref ai, .ref pu, .ref pa, .ref ga, .ref sc, .ref hi, .ref gr, .int (nI me), .int (nI dp), .int (bI up), .int (nI mi), .int (nI ru), .long wp, .long wl])), (ga, .inr (1, [.ref g1, .ref g2, .ref g3])), (g1, .inl (cZ, 20, .inl (bA UP))), (g2, .inl (cZ, 20, .inl (bA CL))), (g3, .inl (cJ, 20, .inr (.inl CO))), (ou, .inl (cJ, 1, .inr (.inl OU)))] sz)) (Qi9 D (va_A [(h0, .inr (5, [.ref ai, .ref pu, .ref pa, .ref ga, .ref sc, .ref hi, .ref gr, .int (nI me), .int (nI dp), .int (bI up), .int (nI mi), .int (nI ru), .long wp, .long wl])), (ga, .inr (1, [.ref g1, .ref g2, .ref g3])), (g1, .inl (cZ, 20, .inl (bA UP))), (g2, .inl (cZ, 20, .inl (bA CL))), (g3, .inl (cJ, 20, .inr (.inl CO))), (ou, .inl (cJ, 1, .inr (.inl OU)))] sz) [(h0, .inr (5, [.ref ai, .ref pu, .ref pa, .ref ga, .ref sc, .ref hi, .ref gr, .int (nI me), .int (nI dp), .int (bI up), .int (nI mi), .int (nI ru), .long wp, .long wl])), (ga, .inr (1, [.ref g1, .ref g2, .ref g3])), (g1, .inl (cZ, 20, .inl (bA UP))), (g2, .inl (cZ, 20, .inl (bA CL))), (g3, .inl (cJ, 20, .inr (.inl CO))), (ou, .inl (cJ, 1, .inr (.inl (uN OU 0 (CO ki)))))] (nI 0)) XN 0 0 (va_A [(h0, .inr (5, [.ref ai, .ref pu, .ref pa, .ref ga, .ref sc, .ref hi, .ref gr, .int (nI me), .int (nI dp), .int (bI up), .int (nI mi), .int (nI ru), .long wp, .long wl])), (ga, .inr (1, [.ref g1, .ref g2, .ref g3])), (g1, .inl (cZ, 20, .inl (bA UP))), (g2, .inl (cZ, 20, .inl (bA CL))), (g3, .inl (cJ, 20, .inr (.inl CO))), (ou, .inl (cJ, 1, .inr (.inl OU)))] sz) := by
  refine vx_ofWH (hh := [(0, 8, 11, 13)]) (cc := cL_collected) (maxL := 4) (ret := (some .int)) (by decide) rfl ?_
  intro p e s m args below meth c s₁ B hml hv
  obtain ⟨hargs, hsz, hP, hT, hD0⟩ := hv
  have hx := B.exec
  have hb := B.bytes
  have hr := B.returns
  have hts := atoms_spec (ws := wsL_collected) B.pre
  have hown : s.vm.findClass RL = some m.cls := findClass_of_methodNamed B.named
  have hlocks := B.notSynchronized
  subst hsz
  have hK := hT.1
  have hD := hD0.self (sz := s.heap.size)
  generalize hAe : va_A [(h0, .inr (5, [.ref ai, .ref pu, .ref pa, .ref ga, .ref sc, .ref hi, .ref gr, .int (nI me), .int (nI dp), .int (bI up), .int (nI mi), .int (nI ru), .long wp, .long wl])), (ga, .inr (1, [.ref g1, .ref g2, .ref g3])), (g1, .inl (cZ, 20, .inl (bA UP))), (g2, .inl (cZ, 20, .inl (bA CL))), (g3, .inl (cJ, 20, .inr (.inl CO))), (ou, .inl (cJ, 1, .inr (.inl OU)))] s.heap.size = A at hD ⊢
  have hA : ∀ q : Nat, s.heap.size ≤ q → A q := fun q h => by rw [← hAe]; exact Or.inr h
  have hS : va_S A s.heap s.heap [] := va_S.rf
  obtain ⟨H, hHe⟩ : ∃ H : Heap, H = s.heap := ⟨_, rfl⟩
  have hS : va_S A s.heap H [] := by rw [hHe]; exact va_S.rf
  rw [← hHe] at hP
  suffices K0 : W p l e (headSpec wsL_collected ({ frames := 4, cells := 0, slots := 0, locals := 83 } : Room)).room s m args below meth c H [] 0 0 (MQ below (Qi9 D A [(h0, .inr (5, [.ref ai, .ref pu, .ref pa, .ref ga, .ref sc, .ref hi, .ref gr, .int (nI me), .int (nI dp), .int (bI up), .int (nI mi), .int (nI ru), .long wp, .long wl])), (ga, .inr (1, [.ref g1, .ref g2, .ref g3])), (g1, .inl (cZ, 20, .inl (bA UP))), (g2, .inl (cZ, 20, .inl (bA CL))), (g3, .inl (cJ, 20, .inr (.inl CO))), (ou, .inl (cJ, 1, .inr (.inl (uN OU 0 (CO ki)))))] (nI 0)) args s 0 0 A) (entryFrame m args 4) by rw [hHe] at K0; exact vx_ret K0
  refine W.eq (g2 := entryFrame m ([.ref h0, .int (nI ki), .ref ou] : List Value).toArray 4) (by rw [hargs]) ?_
  have hl := lv_entry ([.ref h0, .int (nI ki), .ref ou]) (n := 4) (Nat.le_of_ble_eq_true rfl)
  rw [lg_entry_eq]
  generalize (lg_sl ([.ref h0, .int (nI ki), .ref ou]) ++ List.replicate (4 - (lg_sl ([.ref h0, .int (nI ki), .ref ou])).length) Slot.unset).toArray = ls at hl ⊢
  have hl : lv_has ls 4 [(0, .ref h0), (1, .int (nI ki)), (2, .ref ou)] := hl
  generalize ([] : List Loc) = locs at hS ⊢
  refine lv_aload_n hx hb dL_collected_0 rfl (lv_at hl 2 rfl) ?_
  refine lv_iconst (v := nI 0) hx hb dL_collected_1 (by decide) ?_
  refine lv_aload_n hx hb dL_collected_2 rfl (lv_at hl 0 rfl) ?_
  refine lv_iload_n hx hb dL_collected_3 rfl (lv_at hl 1 rfl) ?_
  refine cr_l (wc := [(h0, .inr (5, [.ref ai, .ref pu, .ref pa, .ref ga, .ref sc, .ref hi, .ref gr, .int (nI me), .int (nI dp), .int (bI up), .int (nI mi), .int (nI ru), .long wp, .long wl])), (ga, .inr (1, [.ref g1, .ref g2, .ref g3])), (g1, .inl (cZ, 20, .inl (bA UP))), (g2, .inl (cZ, 20, .inl (bA CL))), (g3, .inl (cJ, 20, .inr (.inl CO)))]) (w1 := [(h0, .inr (5, [.ref ai, .ref pu, .ref pa, .ref ga, .ref sc, .ref hi, .ref gr, .int (nI me), .int (nI dp), .int (bI up), .int (nI mi), .int (nI ru), .long wp, .long wl])), (ga, .inr (1, [.ref g1, .ref g2, .ref g3])), (g1, .inl (cZ, 20, .inl (bA UP))), (g2, .inl (cZ, 20, .inl (bA CL))), (g3, .inl (cJ, 20, .inr (.inl CO)))]) (ws2 := [(h0, .inr (5, [.ref ai, .ref pu, .ref pa, .ref ga, .ref sc, .ref hi, .ref gr, .int (nI me), .int (nI dp), .int (bI up), .int (nI mi), .int (nI ru), .long wp, .long wl])), (ga, .inr (1, [.ref g1, .ref g2, .ref g3])), (g1, .inl (cZ, 20, .inl (bA UP))), (g2, .inl (cZ, 20, .inl (bA CL))), (g3, .inl (cJ, 20, .inr (.inl CO))), (ou, .inl (cJ, 1, .inr (.inl OU)))]) hP hD hS hA [0, 1, 2, 3, 4] rfl rfl rfl (va_runV (As := [.int (nI ki)]) (rest := [.int (nI 0), .ref ou]) ⟨hx, hb, hml, hown, hts⟩ (c_X5_collected l D cI cJ cZ h0 ai pu pa ga sc hi gr me dp up mi ru wp wl g1 g2 g3 UP CL CO ki (by assumption) (by assumption) H.size) (cwV 1 hts gL_collected_X5_collected rfl rfl rfl (by decide +kernel) ⟨Nat.le_of_ble_eq_true rfl, Nat.le_of_ble_eq_true rfl⟩) (pvV hT hP hD [0, 1, 2, 3, 4] rfl rfl 0 rfl rfl) rfl rfl hl.1 rfl (lv_room (Nat.le_of_ble_eq_true rfl)) dL_collected_4 ⟨Nat.zero_le _, Nat.zero_le _⟩) (fun H locs hP hD hS => ?_)
  refine ast_L (x := CO ki) hx hb hK hP hD hS 5 1 rfl rfl 0 rfl (by omega) (Nat.le_of_ble_eq_true rfl) dL_collected_7 (fun H locs hP hD hS => ?_)
  have hP : va_P D vwCl [(h0, .inr (5, [.ref ai, .ref pu, .ref pa, .ref ga, .ref sc, .ref hi, .ref gr, .int (nI me), .int (nI dp), .int (bI up), .int (nI mi), .int (nI ru), .long wp, .long wl])), (ga, .inr (1, [.ref g1, .ref g2, .ref g3])), (g1, .inl (cZ, 20, .inl (bA UP))), (g2, .inl (cZ, 20, .inl (bA CL))), (g3, .inl (cJ, 20, .inr (.inl CO))), (ou, .inl (cJ, 1, .inr (.inl (uN OU 0 (CO ki)))))] H := hP
  have hD : va_D A [(h0, .inr (5, [.ref ai, .ref pu, .ref pa, .ref ga, .ref sc, .ref hi, .ref gr, .int (nI me), .int (nI dp), .int (bI up), .int (nI mi), .int (nI ru), .long wp, .long wl])), (ga, .inr (1, [.ref g1, .ref g2, .ref g3])), (g1, .inl (cZ, 20, .inl (bA UP))), (g2, .inl (cZ, 20, .inl (bA CL))), (g3, .inl (cJ, 20, .inr (.inl CO))), (ou, .inl (cJ, 1, .inr (.inl (uN OU 0 (CO ki)))))] := hD
  refine lv_goto (tgt := 14) hx hb dL_collected_8 (by decide) ?_
  refine lv_iconst (v := nI 0) hx hb dL_collected_14 (by decide) ?_
  exact fin_i hx hb hr hlocks hP hD hS (rfl) dL_collected_15
set_option maxHeartbeats 4000000 in
set_option maxRecDepth 100000 in
theorem w_L_ground (l : Launch) (D : va_G) (cI cJ cZ : ClassId) (h0 : Nat) (ai : Nat) (pu : Nat) (pa : Nat) (ga : Nat) (sc : Nat) (hi : Nat) (gr : Nat) (me : Nat) (dp : Nat) (up : Bool) (mi : Nat) (ru : Nat) (wp : Int64) (wl : Int64) (GR : Nat → Int64) (ki : Nat) (ou : Nat) (OU : Nat → Int64) (hki : ki < 20) (sz : Nat) : vx_Met l yL_ground wsL_ground ({ frames := 2, cells := 0, slots := 0, locals := 41 } : Room) (va_Pc [.ref h0, .int (nI ki), .ref ou] (mPre D cI cJ cZ [(h0, .inr (5, [.ref ai, .ref pu, .ref pa, .ref ga, .ref sc, .ref hi, .ref gr, .int (nI me), .int (nI dp), .int (bI up), .int (nI mi), .int (nI ru), .long wp, .long wl])), (gr, .inl (cJ, 20, .inr (.inl GR))), (ou, .inl (cJ, 1, .inr (.inl OU)))] sz)) (Qi9 D (va_A [(h0, .inr (5, [.ref ai, .ref pu, .ref pa, .ref ga, .ref sc, .ref hi, .ref gr, .int (nI me), .int (nI dp), .int (bI up), .int (nI mi), .int (nI ru), .long wp, .long wl])), (gr, .inl (cJ, 20, .inr (.inl GR))), (ou, .inl (cJ, 1, .inr (.inl OU)))] sz) [(h0, .inr (5, [.ref ai, .ref pu, .ref pa, .ref ga, .ref sc, .ref hi, .ref gr, .int (nI me), .int (nI dp), .int (bI up), .int (nI mi), .int (nI ru), .long wp, .long wl])), (gr, .inl (cJ, 20, .inr (.inl GR))), (ou, .inl (cJ, 1, .inr (.inl (uN OU 0 (GR ki)))))] (nI 0)) XN 0 0 (va_A [(h0, .inr (5, [.ref ai, .ref pu, .ref pa, .ref ga, .ref sc, .ref hi, .ref gr, .int (nI me), .int (nI dp), .int (bI up), .int (nI mi), .int (nI ru), .long wp, .long wl])), (gr, .inl (cJ, 20, .inr (.inl GR))), (ou, .inl (cJ, 1, .inr (.inl OU)))] sz) := by
  refine vx_ofWH (hh := [(0, 8, 11, 13)]) (cc := cL_ground) (maxL := 4) (ret := (some .int)) (by decide) rfl ?_
  intro p e s m args below meth c s₁ B hml hv
  obtain ⟨hargs, hsz, hP, hT, hD0⟩ := hv
  have hx := B.exec
  have hb := B.bytes
  have hr := B.returns
  have hts := atoms_spec (ws := wsL_ground) B.pre
  have hown : s.vm.findClass RL = some m.cls := findClass_of_methodNamed B.named
  have hlocks := B.notSynchronized
  subst hsz
  have hK := hT.1
  have hD := hD0.self (sz := s.heap.size)
  generalize hAe : va_A [(h0, .inr (5, [.ref ai, .ref pu, .ref pa, .ref ga, .ref sc, .ref hi, .ref gr, .int (nI me), .int (nI dp), .int (bI up), .int (nI mi), .int (nI ru), .long wp, .long wl])), (gr, .inl (cJ, 20, .inr (.inl GR))), (ou, .inl (cJ, 1, .inr (.inl OU)))] s.heap.size = A at hD ⊢
  have hA : ∀ q : Nat, s.heap.size ≤ q → A q := fun q h => by rw [← hAe]; exact Or.inr h
  have hS : va_S A s.heap s.heap [] := va_S.rf
  obtain ⟨H, hHe⟩ : ∃ H : Heap, H = s.heap := ⟨_, rfl⟩
  have hS : va_S A s.heap H [] := by rw [hHe]; exact va_S.rf
  rw [← hHe] at hP
  suffices K0 : W p l e (headSpec wsL_ground ({ frames := 2, cells := 0, slots := 0, locals := 41 } : Room)).room s m args below meth c H [] 0 0 (MQ below (Qi9 D A [(h0, .inr (5, [.ref ai, .ref pu, .ref pa, .ref ga, .ref sc, .ref hi, .ref gr, .int (nI me), .int (nI dp), .int (bI up), .int (nI mi), .int (nI ru), .long wp, .long wl])), (gr, .inl (cJ, 20, .inr (.inl GR))), (ou, .inl (cJ, 1, .inr (.inl (uN OU 0 (GR ki)))))] (nI 0)) args s 0 0 A) (entryFrame m args 4) by rw [hHe] at K0; exact vx_ret K0
  refine W.eq (g2 := entryFrame m ([.ref h0, .int (nI ki), .ref ou] : List Value).toArray 4) (by rw [hargs]) ?_
  have hl := lv_entry ([.ref h0, .int (nI ki), .ref ou]) (n := 4) (Nat.le_of_ble_eq_true rfl)
  rw [lg_entry_eq]
  generalize (lg_sl ([.ref h0, .int (nI ki), .ref ou]) ++ List.replicate (4 - (lg_sl ([.ref h0, .int (nI ki), .ref ou])).length) Slot.unset).toArray = ls at hl ⊢
  have hl : lv_has ls 4 [(0, .ref h0), (1, .int (nI ki)), (2, .ref ou)] := hl
  generalize ([] : List Loc) = locs at hS ⊢
  refine lv_aload_n hx hb dL_ground_0 rfl (lv_at hl 2 rfl) ?_
  refine lv_iconst (v := nI 0) hx hb dL_ground_1 (by decide) ?_
  refine lv_aload_n hx hb dL_ground_2 rfl (lv_at hl 0 rfl) ?_
  refine lv_iload_n hx hb dL_ground_3 rfl (lv_at hl 1 rfl) ?_
  refine cr_l (wc := [(h0, .inr (5, [.ref ai, .ref pu, .ref pa, .ref ga, .ref sc, .ref hi, .ref gr, .int (nI me), .int (nI dp), .int (bI up), .int (nI mi), .int (nI ru), .long wp, .long wl])), (gr, .inl (cJ, 20, .inr (.inl GR)))]) (w1 := [(h0, .inr (5, [.ref ai, .ref pu, .ref pa, .ref ga, .ref sc, .ref hi, .ref gr, .int (nI me), .int (nI dp), .int (bI up), .int (nI mi), .int (nI ru), .long wp, .long wl])), (gr, .inl (cJ, 20, .inr (.inl GR)))]) (ws2 := [(h0, .inr (5, [.ref ai, .ref pu, .ref pa, .ref ga, .ref sc, .ref hi, .ref gr, .int (nI me), .int (nI dp), .int (bI up), .int (nI mi), .int (nI ru), .long wp, .long wl])), (gr, .inl (cJ, 20, .inr (.inl GR))), (ou, .inl (cJ, 1, .inr (.inl OU)))]) hP hD hS hA [0, 1] rfl rfl rfl (va_runV (As := [.int (nI ki)]) (rest := [.int (nI 0), .ref ou]) ⟨hx, hb, hml, hown, hts⟩ (c_X5_ground l D cI cJ cZ h0 ai pu pa ga sc hi gr me dp up mi ru wp wl GR ki (by assumption) H.size) (cwV 1 hts gL_ground_X5_ground rfl rfl rfl (by decide +kernel) ⟨Nat.le_of_ble_eq_true rfl, Nat.le_of_ble_eq_true rfl⟩) (pvV hT hP hD [0, 1] rfl rfl 0 rfl rfl) rfl rfl hl.1 rfl (lv_room (Nat.le_of_ble_eq_true rfl)) dL_ground_4 ⟨Nat.zero_le _, Nat.zero_le _⟩) (fun H locs hP hD hS => ?_)
  refine ast_L (x := GR ki) hx hb hK hP hD hS 2 1 rfl rfl 0 rfl (by omega) (Nat.le_of_ble_eq_true rfl) dL_ground_7 (fun H locs hP hD hS => ?_)
  have hP : va_P D vwCl [(h0, .inr (5, [.ref ai, .ref pu, .ref pa, .ref ga, .ref sc, .ref hi, .ref gr, .int (nI me), .int (nI dp), .int (bI up), .int (nI mi), .int (nI ru), .long wp, .long wl])), (gr, .inl (cJ, 20, .inr (.inl GR))), (ou, .inl (cJ, 1, .inr (.inl (uN OU 0 (GR ki)))))] H := hP
  have hD : va_D A [(h0, .inr (5, [.ref ai, .ref pu, .ref pa, .ref ga, .ref sc, .ref hi, .ref gr, .int (nI me), .int (nI dp), .int (bI up), .int (nI mi), .int (nI ru), .long wp, .long wl])), (gr, .inl (cJ, 20, .inr (.inl GR))), (ou, .inl (cJ, 1, .inr (.inl (uN OU 0 (GR ki)))))] := hD
  refine lv_goto (tgt := 14) hx hb dL_ground_8 (by decide) ?_
  refine lv_iconst (v := nI 0) hx hb dL_ground_14 (by decide) ?_
  exact fin_i hx hb hr hlocks hP hD hS (rfl) dL_ground_15
set_option maxHeartbeats 4000000 in
set_option maxRecDepth 100000 in
theorem w_L_water_0 (l : Launch) (D : va_G) (cI cJ cZ : ClassId) (h0 : Nat) (ai : Nat) (pu : Nat) (pa : Nat) (ga : Nat) (sc : Nat) (hi : Nat) (gr : Nat) (me : Nat) (dp : Nat) (up : Bool) (mi : Nat) (ru : Nat) (wp : Int64) (wl : Int64) (ou : Nat) (OU : Nat → Int64) (sz : Nat) : vx_Met l yL_water wsL_water ({ frames := 2, cells := 0, slots := 0, locals := 43 } : Room) (va_Pc [.ref h0, .int (nI 0), .ref ou] (mPre D cI cJ cZ [(h0, .inr (5, [.ref ai, .ref pu, .ref pa, .ref ga, .ref sc, .ref hi, .ref gr, .int (nI me), .int (nI dp), .int (bI up), .int (nI mi), .int (nI ru), .long wp, .long wl])), (ou, .inl (cJ, 1, .inr (.inl OU)))] sz)) (Qi9 D (va_A [(h0, .inr (5, [.ref ai, .ref pu, .ref pa, .ref ga, .ref sc, .ref hi, .ref gr, .int (nI me), .int (nI dp), .int (bI up), .int (nI mi), .int (nI ru), .long wp, .long wl])), (ou, .inl (cJ, 1, .inr (.inl OU)))] sz) [(h0, .inr (5, [.ref ai, .ref pu, .ref pa, .ref ga, .ref sc, .ref hi, .ref gr, .int (nI me), .int (nI dp), .int (bI up), .int (nI mi), .int (nI ru), .long wp, .long wl])), (ou, .inl (cJ, 1, .inr (.inl (uN OU 0 wp))))] (nI 0)) XN 0 0 (va_A [(h0, .inr (5, [.ref ai, .ref pu, .ref pa, .ref ga, .ref sc, .ref hi, .ref gr, .int (nI me), .int (nI dp), .int (bI up), .int (nI mi), .int (nI ru), .long wp, .long wl])), (ou, .inl (cJ, 1, .inr (.inl OU)))] sz) := by
  refine vx_ofWH (hh := [(0, 8, 11, 15)]) (cc := cL_water) (maxL := 4) (ret := (some .int)) (by decide) rfl ?_
  intro p e s m args below meth c s₁ B hml hv
  obtain ⟨hargs, hsz, hP, hT, hD0⟩ := hv
  have hx := B.exec
  have hb := B.bytes
  have hr := B.returns
  have hts := atoms_spec (ws := wsL_water) B.pre
  have hown : s.vm.findClass RL = some m.cls := findClass_of_methodNamed B.named
  have hlocks := B.notSynchronized
  subst hsz
  have hK := hT.1
  have hD := hD0.self (sz := s.heap.size)
  generalize hAe : va_A [(h0, .inr (5, [.ref ai, .ref pu, .ref pa, .ref ga, .ref sc, .ref hi, .ref gr, .int (nI me), .int (nI dp), .int (bI up), .int (nI mi), .int (nI ru), .long wp, .long wl])), (ou, .inl (cJ, 1, .inr (.inl OU)))] s.heap.size = A at hD ⊢
  have hA : ∀ q : Nat, s.heap.size ≤ q → A q := fun q h => by rw [← hAe]; exact Or.inr h
  have hS : va_S A s.heap s.heap [] := va_S.rf
  obtain ⟨H, hHe⟩ : ∃ H : Heap, H = s.heap := ⟨_, rfl⟩
  have hS : va_S A s.heap H [] := by rw [hHe]; exact va_S.rf
  rw [← hHe] at hP
  suffices K0 : W p l e (headSpec wsL_water ({ frames := 2, cells := 0, slots := 0, locals := 43 } : Room)).room s m args below meth c H [] 0 0 (MQ below (Qi9 D A [(h0, .inr (5, [.ref ai, .ref pu, .ref pa, .ref ga, .ref sc, .ref hi, .ref gr, .int (nI me), .int (nI dp), .int (bI up), .int (nI mi), .int (nI ru), .long wp, .long wl])), (ou, .inl (cJ, 1, .inr (.inl (uN OU 0 wp))))] (nI 0)) args s 0 0 A) (entryFrame m args 4) by rw [hHe] at K0; exact vx_ret K0
  refine W.eq (g2 := entryFrame m ([.ref h0, .int (nI 0), .ref ou] : List Value).toArray 4) (by rw [hargs]) ?_
  have hl := lv_entry ([.ref h0, .int (nI 0), .ref ou]) (n := 4) (Nat.le_of_ble_eq_true rfl)
  rw [lg_entry_eq]
  generalize (lg_sl ([.ref h0, .int (nI 0), .ref ou]) ++ List.replicate (4 - (lg_sl ([.ref h0, .int (nI 0), .ref ou])).length) Slot.unset).toArray = ls at hl ⊢
  have hl : lv_has ls 4 [(0, .ref h0), (1, .int (nI 0)), (2, .ref ou)] := hl
  generalize ([] : List Loc) = locs at hS ⊢
  refine lv_aload_n hx hb dL_water_0 rfl (lv_at hl 2 rfl) ?_
  refine lv_iconst (v := nI 0) hx hb dL_water_1 (by decide) ?_
  refine lv_aload_n hx hb dL_water_2 rfl (lv_at hl 0 rfl) ?_
  refine lv_iload_n hx hb dL_water_3 rfl (lv_at hl 1 rfl) ?_
  refine cr_l (wc := [(h0, .inr (5, [.ref ai, .ref pu, .ref pa, .ref ga, .ref sc, .ref hi, .ref gr, .int (nI me), .int (nI dp), .int (bI up), .int (nI mi), .int (nI ru), .long wp, .long wl]))]) (w1 := [(h0, .inr (5, [.ref ai, .ref pu, .ref pa, .ref ga, .ref sc, .ref hi, .ref gr, .int (nI me), .int (nI dp), .int (bI up), .int (nI mi), .int (nI ru), .long wp, .long wl]))]) (ws2 := [(h0, .inr (5, [.ref ai, .ref pu, .ref pa, .ref ga, .ref sc, .ref hi, .ref gr, .int (nI me), .int (nI dp), .int (bI up), .int (nI mi), .int (nI ru), .long wp, .long wl])), (ou, .inl (cJ, 1, .inr (.inl OU)))]) hP hD hS hA [0] rfl rfl rfl (va_runV (As := [.int (nI 0)]) (rest := [.int (nI 0), .ref ou]) ⟨hx, hb, hml, hown, hts⟩ (c_X5_water_0 l D cI cJ cZ h0 ai pu pa ga sc hi gr me dp up mi ru wp wl H.size) (cwV 1 hts gL_water_X5_water rfl rfl rfl (by decide +kernel) ⟨Nat.le_of_ble_eq_true rfl, Nat.le_of_ble_eq_true rfl⟩) (pvV hT hP hD [0] rfl rfl 0 rfl rfl) rfl rfl hl.1 rfl (lv_room (Nat.le_of_ble_eq_true rfl)) dL_water_4 ⟨Nat.zero_le _, Nat.zero_le _⟩) (fun H locs hP hD hS => ?_)
  refine ast_L (x := wp) hx hb hK hP hD hS 1 1 rfl rfl 0 rfl (by omega) (Nat.le_of_ble_eq_true rfl) dL_water_7 (fun H locs hP hD hS => ?_)
  have hP : va_P D vwCl [(h0, .inr (5, [.ref ai, .ref pu, .ref pa, .ref ga, .ref sc, .ref hi, .ref gr, .int (nI me), .int (nI dp), .int (bI up), .int (nI mi), .int (nI ru), .long wp, .long wl])), (ou, .inl (cJ, 1, .inr (.inl (uN OU 0 wp))))] H := hP
  have hD : va_D A [(h0, .inr (5, [.ref ai, .ref pu, .ref pa, .ref ga, .ref sc, .ref hi, .ref gr, .int (nI me), .int (nI dp), .int (bI up), .int (nI mi), .int (nI ru), .long wp, .long wl])), (ou, .inl (cJ, 1, .inr (.inl (uN OU 0 wp))))] := hD
  refine lv_goto (tgt := 14) hx hb dL_water_8 (by decide) ?_
  refine lv_iconst (v := nI 0) hx hb dL_water_14 (by decide) ?_
  exact fin_i hx hb hr hlocks hP hD hS (rfl) dL_water_15
set_option maxHeartbeats 4000000 in
set_option maxRecDepth 100000 in
theorem w_L_water_1 (l : Launch) (D : va_G) (cI cJ cZ : ClassId) (h0 : Nat) (ai : Nat) (pu : Nat) (pa : Nat) (ga : Nat) (sc : Nat) (hi : Nat) (gr : Nat) (me : Nat) (dp : Nat) (up : Bool) (mi : Nat) (ru : Nat) (wp : Int64) (wl : Int64) (a1 : Nat) (C : Nat → Nat) (ou : Nat) (OU : Nat → Int64) (sz : Nat) : vx_Met l yL_water wsL_water ({ frames := 4, cells := 0, slots := 0, locals := 92 } : Room) (va_Pc [.ref h0, .int (nI 1), .ref ou] (mPre D cI cJ cZ [(h0, .inr (5, [.ref ai, .ref pu, .ref pa, .ref ga, .ref sc, .ref hi, .ref gr, .int (nI me), .int (nI dp), .int (bI up), .int (nI mi), .int (nI ru), .long wp, .long wl])), (ai, .inr (0, [.ref a1])), (a1, .inl (cI, 600, .inl (nA C))), (ou, .inl (cJ, 1, .inr (.inl OU)))] sz)) (Qi9 D (va_A [(h0, .inr (5, [.ref ai, .ref pu, .ref pa, .ref ga, .ref sc, .ref hi, .ref gr, .int (nI me), .int (nI dp), .int (bI up), .int (nI mi), .int (nI ru), .long wp, .long wl])), (ai, .inr (0, [.ref a1])), (a1, .inl (cI, 600, .inl (nA C))), (ou, .inl (cJ, 1, .inr (.inl OU)))] sz) [(h0, .inr (5, [.ref ai, .ref pu, .ref pa, .ref ga, .ref sc, .ref hi, .ref gr, .int (nI me), .int (nI dp), .int (bI up), .int (nI mi), .int (nI ru), .long wp, .long wl])), (ai, .inr (0, [.ref a1])), (a1, .inl (cI, 600, .inl (nA C))), (ou, .inl (cJ, 1, .inr (.inl (uN OU 0 (AWs C 600)))))] (nI 0)) XN 0 0 (va_A [(h0, .inr (5, [.ref ai, .ref pu, .ref pa, .ref ga, .ref sc, .ref hi, .ref gr, .int (nI me), .int (nI dp), .int (bI up), .int (nI mi), .int (nI ru), .long wp, .long wl])), (ai, .inr (0, [.ref a1])), (a1, .inl (cI, 600, .inl (nA C))), (ou, .inl (cJ, 1, .inr (.inl OU)))] sz) := by
  refine vx_ofWH (hh := [(0, 8, 11, 15)]) (cc := cL_water) (maxL := 4) (ret := (some .int)) (by decide) rfl ?_
  intro p e s m args below meth c s₁ B hml hv
  obtain ⟨hargs, hsz, hP, hT, hD0⟩ := hv
  have hx := B.exec
  have hb := B.bytes
  have hr := B.returns
  have hts := atoms_spec (ws := wsL_water) B.pre
  have hown : s.vm.findClass RL = some m.cls := findClass_of_methodNamed B.named
  have hlocks := B.notSynchronized
  subst hsz
  have hK := hT.1
  have hD := hD0.self (sz := s.heap.size)
  generalize hAe : va_A [(h0, .inr (5, [.ref ai, .ref pu, .ref pa, .ref ga, .ref sc, .ref hi, .ref gr, .int (nI me), .int (nI dp), .int (bI up), .int (nI mi), .int (nI ru), .long wp, .long wl])), (ai, .inr (0, [.ref a1])), (a1, .inl (cI, 600, .inl (nA C))), (ou, .inl (cJ, 1, .inr (.inl OU)))] s.heap.size = A at hD ⊢
  have hA : ∀ q : Nat, s.heap.size ≤ q → A q := fun q h => by rw [← hAe]; exact Or.inr h
  have hS : va_S A s.heap s.heap [] := va_S.rf
  obtain ⟨H, hHe⟩ : ∃ H : Heap, H = s.heap := ⟨_, rfl⟩
  have hS : va_S A s.heap H [] := by rw [hHe]; exact va_S.rf
  rw [← hHe] at hP
  suffices K0 : W p l e (headSpec wsL_water ({ frames := 4, cells := 0, slots := 0, locals := 92 } : Room)).room s m args below meth c H [] 0 0 (MQ below (Qi9 D A [(h0, .inr (5, [.ref ai, .ref pu, .ref pa, .ref ga, .ref sc, .ref hi, .ref gr, .int (nI me), .int (nI dp), .int (bI up), .int (nI mi), .int (nI ru), .long wp, .long wl])), (ai, .inr (0, [.ref a1])), (a1, .inl (cI, 600, .inl (nA C))), (ou, .inl (cJ, 1, .inr (.inl (uN OU 0 (AWs C 600)))))] (nI 0)) args s 0 0 A) (entryFrame m args 4) by rw [hHe] at K0; exact vx_ret K0
  refine W.eq (g2 := entryFrame m ([.ref h0, .int (nI 1), .ref ou] : List Value).toArray 4) (by rw [hargs]) ?_
  have hl := lv_entry ([.ref h0, .int (nI 1), .ref ou]) (n := 4) (Nat.le_of_ble_eq_true rfl)
  rw [lg_entry_eq]
  generalize (lg_sl ([.ref h0, .int (nI 1), .ref ou]) ++ List.replicate (4 - (lg_sl ([.ref h0, .int (nI 1), .ref ou])).length) Slot.unset).toArray = ls at hl ⊢
  have hl : lv_has ls 4 [(0, .ref h0), (1, .int (nI 1)), (2, .ref ou)] := hl
  generalize ([] : List Loc) = locs at hS ⊢
  refine lv_aload_n hx hb dL_water_0 rfl (lv_at hl 2 rfl) ?_
  refine lv_iconst (v := nI 0) hx hb dL_water_1 (by decide) ?_
  refine lv_aload_n hx hb dL_water_2 rfl (lv_at hl 0 rfl) ?_
  refine lv_iload_n hx hb dL_water_3 rfl (lv_at hl 1 rfl) ?_
  refine cr_l (wc := [(h0, .inr (5, [.ref ai, .ref pu, .ref pa, .ref ga, .ref sc, .ref hi, .ref gr, .int (nI me), .int (nI dp), .int (bI up), .int (nI mi), .int (nI ru), .long wp, .long wl])), (ai, .inr (0, [.ref a1])), (a1, .inl (cI, 600, .inl (nA C)))]) (w1 := [(h0, .inr (5, [.ref ai, .ref pu, .ref pa, .ref ga, .ref sc, .ref hi, .ref gr, .int (nI me), .int (nI dp), .int (bI up), .int (nI mi), .int (nI ru), .long wp, .long wl])), (ai, .inr (0, [.ref a1])), (a1, .inl (cI, 600, .inl (nA C)))]) (ws2 := [(h0, .inr (5, [.ref ai, .ref pu, .ref pa, .ref ga, .ref sc, .ref hi, .ref gr, .int (nI me), .int (nI dp), .int (bI up), .int (nI mi), .int (nI ru), .long wp, .long wl])), (ai, .inr (0, [.ref a1])), (a1, .inl (cI, 600, .inl (nA C))), (ou, .inl (cJ, 1, .inr (.inl OU)))]) hP hD hS hA [0, 1, 2] rfl rfl rfl (va_runV (As := [.int (nI 1)]) (rest := [.int (nI 0), .ref ou]) ⟨hx, hb, hml, hown, hts⟩ (c_X5_water_1 l D cI cJ cZ h0 ai pu pa ga sc hi gr me dp up mi ru wp wl a1 C H.size) (cwV 1 hts gL_water_X5_water rfl rfl rfl (by decide +kernel) ⟨Nat.le_of_ble_eq_true rfl, Nat.le_of_ble_eq_true rfl⟩) (pvV hT hP hD [0, 1, 2] rfl rfl 0 rfl rfl) rfl rfl hl.1 rfl (lv_room (Nat.le_of_ble_eq_true rfl)) dL_water_4 ⟨Nat.zero_le _, Nat.zero_le _⟩) (fun H locs hP hD hS => ?_)
  refine ast_L (x := AWs C 600) hx hb hK hP hD hS 3 1 rfl rfl 0 rfl (by omega) (Nat.le_of_ble_eq_true rfl) dL_water_7 (fun H locs hP hD hS => ?_)
  have hP : va_P D vwCl [(h0, .inr (5, [.ref ai, .ref pu, .ref pa, .ref ga, .ref sc, .ref hi, .ref gr, .int (nI me), .int (nI dp), .int (bI up), .int (nI mi), .int (nI ru), .long wp, .long wl])), (ai, .inr (0, [.ref a1])), (a1, .inl (cI, 600, .inl (nA C))), (ou, .inl (cJ, 1, .inr (.inl (uN OU 0 (AWs C 600)))))] H := hP
  have hD : va_D A [(h0, .inr (5, [.ref ai, .ref pu, .ref pa, .ref ga, .ref sc, .ref hi, .ref gr, .int (nI me), .int (nI dp), .int (bI up), .int (nI mi), .int (nI ru), .long wp, .long wl])), (ai, .inr (0, [.ref a1])), (a1, .inl (cI, 600, .inl (nA C))), (ou, .inl (cJ, 1, .inr (.inl (uN OU 0 (AWs C 600)))))] := hD
  refine lv_goto (tgt := 14) hx hb dL_water_8 (by decide) ?_
  refine lv_iconst (v := nI 0) hx hb dL_water_14 (by decide) ?_
  exact fin_i hx hb hr hlocks hP hD hS (rfl) dL_water_15
set_option maxHeartbeats 4000000 in
set_option maxRecDepth 100000 in
theorem w_L_water_2 (l : Launch) (D : va_G) (cI cJ cZ : ClassId) (h0 : Nat) (ai : Nat) (pu : Nat) (pa : Nat) (ga : Nat) (sc : Nat) (hi : Nat) (gr : Nat) (me : Nat) (dp : Nat) (up : Bool) (mi : Nat) (ru : Nat) (wp : Int64) (wl : Int64) (GR : Nat → Int64) (ou : Nat) (OU : Nat → Int64) (sz : Nat) : vx_Met l yL_water wsL_water ({ frames := 2, cells := 0, slots := 0, locals := 44 } : Room) (va_Pc [.ref h0, .int (nI 2), .ref ou] (mPre D cI cJ cZ [(h0, .inr (5, [.ref ai, .ref pu, .ref pa, .ref ga, .ref sc, .ref hi, .ref gr, .int (nI me), .int (nI dp), .int (bI up), .int (nI mi), .int (nI ru), .long wp, .long wl])), (gr, .inl (cJ, 20, .inr (.inl GR))), (ou, .inl (cJ, 1, .inr (.inl OU)))] sz)) (Qi9 D (va_A [(h0, .inr (5, [.ref ai, .ref pu, .ref pa, .ref ga, .ref sc, .ref hi, .ref gr, .int (nI me), .int (nI dp), .int (bI up), .int (nI mi), .int (nI ru), .long wp, .long wl])), (gr, .inl (cJ, 20, .inr (.inl GR))), (ou, .inl (cJ, 1, .inr (.inl OU)))] sz) [(h0, .inr (5, [.ref ai, .ref pu, .ref pa, .ref ga, .ref sc, .ref hi, .ref gr, .int (nI me), .int (nI dp), .int (bI up), .int (nI mi), .int (nI ru), .long wp, .long wl])), (gr, .inl (cJ, 20, .inr (.inl GR))), (ou, .inl (cJ, 1, .inr (.inl (uN OU 0 (gS GR 20)))))] (nI 0)) XN 0 0 (va_A [(h0, .inr (5, [.ref ai, .ref pu, .ref pa, .ref ga, .ref sc, .ref hi, .ref gr, .int (nI me), .int (nI dp), .int (bI up), .int (nI mi), .int (nI ru), .long wp, .long wl])), (gr, .inl (cJ, 20, .inr (.inl GR))), (ou, .inl (cJ, 1, .inr (.inl OU)))] sz) := by
  refine vx_ofWH (hh := [(0, 8, 11, 15)]) (cc := cL_water) (maxL := 4) (ret := (some .int)) (by decide) rfl ?_
  intro p e s m args below meth c s₁ B hml hv
  obtain ⟨hargs, hsz, hP, hT, hD0⟩ := hv
  have hx := B.exec
  have hb := B.bytes
  have hr := B.returns
  have hts := atoms_spec (ws := wsL_water) B.pre
  have hown : s.vm.findClass RL = some m.cls := findClass_of_methodNamed B.named
  have hlocks := B.notSynchronized
  subst hsz
  have hK := hT.1
  have hD := hD0.self (sz := s.heap.size)
  generalize hAe : va_A [(h0, .inr (5, [.ref ai, .ref pu, .ref pa, .ref ga, .ref sc, .ref hi, .ref gr, .int (nI me), .int (nI dp), .int (bI up), .int (nI mi), .int (nI ru), .long wp, .long wl])), (gr, .inl (cJ, 20, .inr (.inl GR))), (ou, .inl (cJ, 1, .inr (.inl OU)))] s.heap.size = A at hD ⊢
  have hA : ∀ q : Nat, s.heap.size ≤ q → A q := fun q h => by rw [← hAe]; exact Or.inr h
  have hS : va_S A s.heap s.heap [] := va_S.rf
  obtain ⟨H, hHe⟩ : ∃ H : Heap, H = s.heap := ⟨_, rfl⟩
  have hS : va_S A s.heap H [] := by rw [hHe]; exact va_S.rf
  rw [← hHe] at hP
  suffices K0 : W p l e (headSpec wsL_water ({ frames := 2, cells := 0, slots := 0, locals := 44 } : Room)).room s m args below meth c H [] 0 0 (MQ below (Qi9 D A [(h0, .inr (5, [.ref ai, .ref pu, .ref pa, .ref ga, .ref sc, .ref hi, .ref gr, .int (nI me), .int (nI dp), .int (bI up), .int (nI mi), .int (nI ru), .long wp, .long wl])), (gr, .inl (cJ, 20, .inr (.inl GR))), (ou, .inl (cJ, 1, .inr (.inl (uN OU 0 (gS GR 20)))))] (nI 0)) args s 0 0 A) (entryFrame m args 4) by rw [hHe] at K0; exact vx_ret K0
  refine W.eq (g2 := entryFrame m ([.ref h0, .int (nI 2), .ref ou] : List Value).toArray 4) (by rw [hargs]) ?_
  have hl := lv_entry ([.ref h0, .int (nI 2), .ref ou]) (n := 4) (Nat.le_of_ble_eq_true rfl)
  rw [lg_entry_eq]
  generalize (lg_sl ([.ref h0, .int (nI 2), .ref ou]) ++ List.replicate (4 - (lg_sl ([.ref h0, .int (nI 2), .ref ou])).length) Slot.unset).toArray = ls at hl ⊢
  have hl : lv_has ls 4 [(0, .ref h0), (1, .int (nI 2)), (2, .ref ou)] := hl
  generalize ([] : List Loc) = locs at hS ⊢
  refine lv_aload_n hx hb dL_water_0 rfl (lv_at hl 2 rfl) ?_
  refine lv_iconst (v := nI 0) hx hb dL_water_1 (by decide) ?_
  refine lv_aload_n hx hb dL_water_2 rfl (lv_at hl 0 rfl) ?_
  refine lv_iload_n hx hb dL_water_3 rfl (lv_at hl 1 rfl) ?_
  refine cr_l (wc := [(h0, .inr (5, [.ref ai, .ref pu, .ref pa, .ref ga, .ref sc, .ref hi, .ref gr, .int (nI me), .int (nI dp), .int (bI up), .int (nI mi), .int (nI ru), .long wp, .long wl])), (gr, .inl (cJ, 20, .inr (.inl GR)))]) (w1 := [(h0, .inr (5, [.ref ai, .ref pu, .ref pa, .ref ga, .ref sc, .ref hi, .ref gr, .int (nI me), .int (nI dp), .int (bI up), .int (nI mi), .int (nI ru), .long wp, .long wl])), (gr, .inl (cJ, 20, .inr (.inl GR)))]) (ws2 := [(h0, .inr (5, [.ref ai, .ref pu, .ref pa, .ref ga, .ref sc, .ref hi, .ref gr, .int (nI me), .int (nI dp), .int (bI up), .int (nI mi), .int (nI ru), .long wp, .long wl])), (gr, .inl (cJ, 20, .inr (.inl GR))), (ou, .inl (cJ, 1, .inr (.inl OU)))]) hP hD hS hA [0, 1] rfl rfl rfl (va_runV (As := [.int (nI 2)]) (rest := [.int (nI 0), .ref ou]) ⟨hx, hb, hml, hown, hts⟩ (c_X5_water_2 l D cI cJ cZ h0 ai pu pa ga sc hi gr me dp up mi ru wp wl GR H.size) (cwV 1 hts gL_water_X5_water rfl rfl rfl (by decide +kernel) ⟨Nat.le_of_ble_eq_true rfl, Nat.le_of_ble_eq_true rfl⟩) (pvV hT hP hD [0, 1] rfl rfl 0 rfl rfl) rfl rfl hl.1 rfl (lv_room (Nat.le_of_ble_eq_true rfl)) dL_water_4 ⟨Nat.zero_le _, Nat.zero_le _⟩) (fun H locs hP hD hS => ?_)
  refine ast_L (x := gS GR 20) hx hb hK hP hD hS 2 1 rfl rfl 0 rfl (by omega) (Nat.le_of_ble_eq_true rfl) dL_water_7 (fun H locs hP hD hS => ?_)
  have hP : va_P D vwCl [(h0, .inr (5, [.ref ai, .ref pu, .ref pa, .ref ga, .ref sc, .ref hi, .ref gr, .int (nI me), .int (nI dp), .int (bI up), .int (nI mi), .int (nI ru), .long wp, .long wl])), (gr, .inl (cJ, 20, .inr (.inl GR))), (ou, .inl (cJ, 1, .inr (.inl (uN OU 0 (gS GR 20)))))] H := hP
  have hD : va_D A [(h0, .inr (5, [.ref ai, .ref pu, .ref pa, .ref ga, .ref sc, .ref hi, .ref gr, .int (nI me), .int (nI dp), .int (bI up), .int (nI mi), .int (nI ru), .long wp, .long wl])), (gr, .inl (cJ, 20, .inr (.inl GR))), (ou, .inl (cJ, 1, .inr (.inl (uN OU 0 (gS GR 20)))))] := hD
  refine lv_goto (tgt := 14) hx hb dL_water_8 (by decide) ?_
  refine lv_iconst (v := nI 0) hx hb dL_water_14 (by decide) ?_
  exact fin_i hx hb hr hlocks hP hD hS (rfl) dL_water_15
set_option maxHeartbeats 4000000 in
set_option maxRecDepth 100000 in
theorem w_L_water_3 (l : Launch) (D : va_G) (cI cJ cZ : ClassId) (h0 : Nat) (ai : Nat) (pu : Nat) (pa : Nat) (ga : Nat) (sc : Nat) (hi : Nat) (gr : Nat) (me : Nat) (dp : Nat) (up : Bool) (mi : Nat) (ru : Nat) (wp : Int64) (wl : Int64) (ou : Nat) (OU : Nat → Int64) (sz : Nat) : vx_Met l yL_water wsL_water ({ frames := 2, cells := 0, slots := 0, locals := 43 } : Room) (va_Pc [.ref h0, .int (nI 3), .ref ou] (mPre D cI cJ cZ [(h0, .inr (5, [.ref ai, .ref pu, .ref pa, .ref ga, .ref sc, .ref hi, .ref gr, .int (nI me), .int (nI dp), .int (bI up), .int (nI mi), .int (nI ru), .long wp, .long wl])), (ou, .inl (cJ, 1, .inr (.inl OU)))] sz)) (Qi9 D (va_A [(h0, .inr (5, [.ref ai, .ref pu, .ref pa, .ref ga, .ref sc, .ref hi, .ref gr, .int (nI me), .int (nI dp), .int (bI up), .int (nI mi), .int (nI ru), .long wp, .long wl])), (ou, .inl (cJ, 1, .inr (.inl OU)))] sz) [(h0, .inr (5, [.ref ai, .ref pu, .ref pa, .ref ga, .ref sc, .ref hi, .ref gr, .int (nI me), .int (nI dp), .int (bI up), .int (nI mi), .int (nI ru), .long wp, .long wl])), (ou, .inl (cJ, 1, .inr (.inl (uN OU 0 wl))))] (nI 0)) XN 0 0 (va_A [(h0, .inr (5, [.ref ai, .ref pu, .ref pa, .ref ga, .ref sc, .ref hi, .ref gr, .int (nI me), .int (nI dp), .int (bI up), .int (nI mi), .int (nI ru), .long wp, .long wl])), (ou, .inl (cJ, 1, .inr (.inl OU)))] sz) := by
  refine vx_ofWH (hh := [(0, 8, 11, 15)]) (cc := cL_water) (maxL := 4) (ret := (some .int)) (by decide) rfl ?_
  intro p e s m args below meth c s₁ B hml hv
  obtain ⟨hargs, hsz, hP, hT, hD0⟩ := hv
  have hx := B.exec
  have hb := B.bytes
  have hr := B.returns
  have hts := atoms_spec (ws := wsL_water) B.pre
  have hown : s.vm.findClass RL = some m.cls := findClass_of_methodNamed B.named
  have hlocks := B.notSynchronized
  subst hsz
  have hK := hT.1
  have hD := hD0.self (sz := s.heap.size)
  generalize hAe : va_A [(h0, .inr (5, [.ref ai, .ref pu, .ref pa, .ref ga, .ref sc, .ref hi, .ref gr, .int (nI me), .int (nI dp), .int (bI up), .int (nI mi), .int (nI ru), .long wp, .long wl])), (ou, .inl (cJ, 1, .inr (.inl OU)))] s.heap.size = A at hD ⊢
  have hA : ∀ q : Nat, s.heap.size ≤ q → A q := fun q h => by rw [← hAe]; exact Or.inr h
  have hS : va_S A s.heap s.heap [] := va_S.rf
  obtain ⟨H, hHe⟩ : ∃ H : Heap, H = s.heap := ⟨_, rfl⟩
  have hS : va_S A s.heap H [] := by rw [hHe]; exact va_S.rf
  rw [← hHe] at hP
  suffices K0 : W p l e (headSpec wsL_water ({ frames := 2, cells := 0, slots := 0, locals := 43 } : Room)).room s m args below meth c H [] 0 0 (MQ below (Qi9 D A [(h0, .inr (5, [.ref ai, .ref pu, .ref pa, .ref ga, .ref sc, .ref hi, .ref gr, .int (nI me), .int (nI dp), .int (bI up), .int (nI mi), .int (nI ru), .long wp, .long wl])), (ou, .inl (cJ, 1, .inr (.inl (uN OU 0 wl))))] (nI 0)) args s 0 0 A) (entryFrame m args 4) by rw [hHe] at K0; exact vx_ret K0
  refine W.eq (g2 := entryFrame m ([.ref h0, .int (nI 3), .ref ou] : List Value).toArray 4) (by rw [hargs]) ?_
  have hl := lv_entry ([.ref h0, .int (nI 3), .ref ou]) (n := 4) (Nat.le_of_ble_eq_true rfl)
  rw [lg_entry_eq]
  generalize (lg_sl ([.ref h0, .int (nI 3), .ref ou]) ++ List.replicate (4 - (lg_sl ([.ref h0, .int (nI 3), .ref ou])).length) Slot.unset).toArray = ls at hl ⊢
  have hl : lv_has ls 4 [(0, .ref h0), (1, .int (nI 3)), (2, .ref ou)] := hl
  generalize ([] : List Loc) = locs at hS ⊢
  refine lv_aload_n hx hb dL_water_0 rfl (lv_at hl 2 rfl) ?_
  refine lv_iconst (v := nI 0) hx hb dL_water_1 (by decide) ?_
  refine lv_aload_n hx hb dL_water_2 rfl (lv_at hl 0 rfl) ?_
  refine lv_iload_n hx hb dL_water_3 rfl (lv_at hl 1 rfl) ?_
  refine cr_l (wc := [(h0, .inr (5, [.ref ai, .ref pu, .ref pa, .ref ga, .ref sc, .ref hi, .ref gr, .int (nI me), .int (nI dp), .int (bI up), .int (nI mi), .int (nI ru), .long wp, .long wl]))]) (w1 := [(h0, .inr (5, [.ref ai, .ref pu, .ref pa, .ref ga, .ref sc, .ref hi, .ref gr, .int (nI me), .int (nI dp), .int (bI up), .int (nI mi), .int (nI ru), .long wp, .long wl]))]) (ws2 := [(h0, .inr (5, [.ref ai, .ref pu, .ref pa, .ref ga, .ref sc, .ref hi, .ref gr, .int (nI me), .int (nI dp), .int (bI up), .int (nI mi), .int (nI ru), .long wp, .long wl])), (ou, .inl (cJ, 1, .inr (.inl OU)))]) hP hD hS hA [0] rfl rfl rfl (va_runV (As := [.int (nI 3)]) (rest := [.int (nI 0), .ref ou]) ⟨hx, hb, hml, hown, hts⟩ (c_X5_water_3 l D cI cJ cZ h0 ai pu pa ga sc hi gr me dp up mi ru wp wl H.size) (cwV 1 hts gL_water_X5_water rfl rfl rfl (by decide +kernel) ⟨Nat.le_of_ble_eq_true rfl, Nat.le_of_ble_eq_true rfl⟩) (pvV hT hP hD [0] rfl rfl 0 rfl rfl) rfl rfl hl.1 rfl (lv_room (Nat.le_of_ble_eq_true rfl)) dL_water_4 ⟨Nat.zero_le _, Nat.zero_le _⟩) (fun H locs hP hD hS => ?_)
  refine ast_L (x := wl) hx hb hK hP hD hS 1 1 rfl rfl 0 rfl (by omega) (Nat.le_of_ble_eq_true rfl) dL_water_7 (fun H locs hP hD hS => ?_)
  have hP : va_P D vwCl [(h0, .inr (5, [.ref ai, .ref pu, .ref pa, .ref ga, .ref sc, .ref hi, .ref gr, .int (nI me), .int (nI dp), .int (bI up), .int (nI mi), .int (nI ru), .long wp, .long wl])), (ou, .inl (cJ, 1, .inr (.inl (uN OU 0 wl))))] H := hP
  have hD : va_D A [(h0, .inr (5, [.ref ai, .ref pu, .ref pa, .ref ga, .ref sc, .ref hi, .ref gr, .int (nI me), .int (nI dp), .int (bI up), .int (nI mi), .int (nI ru), .long wp, .long wl])), (ou, .inl (cJ, 1, .inr (.inl (uN OU 0 wl))))] := hD
  refine lv_goto (tgt := 14) hx hb dL_water_8 (by decide) ?_
  refine lv_iconst (v := nI 0) hx hb dL_water_14 (by decide) ?_
  exact fin_i hx hb hr hlocks hP hD hS (rfl) dL_water_15
set_option maxHeartbeats 4000000 in
set_option maxRecDepth 100000 in
theorem w_L_pass (l : Launch) (D : va_G) (cI cJ cZ : ClassId) (h0 : Nat) (ai : Nat) (pu : Nat) (pa : Nat) (ga : Nat) (sc : Nat) (hi : Nat) (gr : Nat) (me : Nat) (dp : Nat) (up : Bool) (mi : Nat) (ru : Nat) (wp : Int64) (wl : Int64) (p1 : Nat) (p2 : Nat) (ML : Nat → Nat) (SP : Nat → Int) (a1 : Nat) (C : Nat → Nat) (GR : Nat → Int64) (g1 : Nat) (g2 : Nat) (g3 : Nat) (UP : Nat → Bool) (CL : Nat → Bool) (CO : Nat → Int64) (mn : Nat) (ou : Nat) (OU : Nat → Int64) (hm1 : 1 ≤ mn) (hm2 : mn ≤ 60) (hmm : mi + mn ≤ 600) (hme : me < 10) (hdp : dp ≤ 60) (sz : Nat) : vx_Met l yL_pass wsL_pass ({ frames := 6, cells := 0, slots := 0, locals := 145 } : Room) (va_Pc [.ref h0, .int (nI mn), .ref ou] (mPre D cI cJ cZ [(h0, .inr (5, [.ref ai, .ref pu, .ref pa, .ref ga, .ref sc, .ref hi, .ref gr, .int (nI me), .int (nI dp), .int (bI up), .int (nI mi), .int (nI ru), .long wp, .long wl])), (pa, .inr (2, [.ref p1, .ref p2])), (p1, .inl (cI, 601, .inl (nA ML))), (p2, .inl (cI, 601, .inl (zA SP))), (ai, .inr (0, [.ref a1])), (a1, .inl (cI, 600, .inl (nA C))), (gr, .inl (cJ, 20, .inr (.inl GR))), (ga, .inr (1, [.ref g1, .ref g2, .ref g3])), (g1, .inl (cZ, 20, .inl (bA UP))), (g2, .inl (cZ, 20, .inl (bA CL))), (g3, .inl (cJ, 20, .inr (.inl CO))), (ou, .inl (cJ, 1, .inr (.inl OU)))] sz)) (Qi9 D (va_A [(h0, .inr (5, [.ref ai, .ref pu, .ref pa, .ref ga, .ref sc, .ref hi, .ref gr, .int (nI me), .int (nI dp), .int (bI up), .int (nI mi), .int (nI ru), .long wp, .long wl])), (pa, .inr (2, [.ref p1, .ref p2])), (p1, .inl (cI, 601, .inl (nA ML))), (p2, .inl (cI, 601, .inl (zA SP))), (ai, .inr (0, [.ref a1])), (a1, .inl (cI, 600, .inl (nA C))), (gr, .inl (cJ, 20, .inr (.inl GR))), (ga, .inr (1, [.ref g1, .ref g2, .ref g3])), (g1, .inl (cZ, 20, .inl (bA UP))), (g2, .inl (cZ, 20, .inl (bA CL))), (g3, .inl (cJ, 20, .inr (.inl CO))), (ou, .inl (cJ, 1, .inr (.inl OU)))] sz) [(h0, .inr (5, [.ref ai, .ref pu, .ref pa, .ref ga, .ref sc, .ref hi, .ref gr, .int (nI me), .int (nI dp), .int (bI up), .int (nI (mi + mn)), .int (nI ru), .long wp, .long ((pv me dp up UP CL mi (C, GR, CO, wl, ML, SP) mn).2.2.2.1)])), (pa, .inr (2, [.ref p1, .ref p2])), (p1, .inl (cI, 601, .inl (nA ((pv me dp up UP CL mi (C, GR, CO, wl, ML, SP) mn).2.2.2.2.1)))), (p2, .inl (cI, 601, .inl (zA ((pv me dp up UP CL mi (C, GR, CO, wl, ML, SP) mn).2.2.2.2.2)))), (ai, .inr (0, [.ref a1])), (a1, .inl (cI, 600, .inl (nA ((pv me dp up UP CL mi (C, GR, CO, wl, ML, SP) mn).1)))), (gr, .inl (cJ, 20, .inr (.inl ((pv me dp up UP CL mi (C, GR, CO, wl, ML, SP) mn).2.1)))), (ga, .inr (1, [.ref g1, .ref g2, .ref g3])), (g1, .inl (cZ, 20, .inl (bA UP))), (g2, .inl (cZ, 20, .inl (bA CL))), (g3, .inl (cJ, 20, .inr (.inl ((pv me dp up UP CL mi (C, GR, CO, wl, ML, SP) mn).2.2.1)))), (ou, .inl (cJ, 1, .inr (.inl (uN OU 0 ((nI (mi + mn)).toInt64)))))] (nI 0)) XN 0 0 (va_A [(h0, .inr (5, [.ref ai, .ref pu, .ref pa, .ref ga, .ref sc, .ref hi, .ref gr, .int (nI me), .int (nI dp), .int (bI up), .int (nI mi), .int (nI ru), .long wp, .long wl])), (pa, .inr (2, [.ref p1, .ref p2])), (p1, .inl (cI, 601, .inl (nA ML))), (p2, .inl (cI, 601, .inl (zA SP))), (ai, .inr (0, [.ref a1])), (a1, .inl (cI, 600, .inl (nA C))), (gr, .inl (cJ, 20, .inr (.inl GR))), (ga, .inr (1, [.ref g1, .ref g2, .ref g3])), (g1, .inl (cZ, 20, .inl (bA UP))), (g2, .inl (cZ, 20, .inl (bA CL))), (g3, .inl (cJ, 20, .inr (.inl CO))), (ou, .inl (cJ, 1, .inr (.inl OU)))] sz) := by
  refine vx_ofWH (hh := [(0, 9, 12, 15), (0, 9, 15, 17)]) (cc := cL_pass) (maxL := 4) (ret := (some .int)) (by decide) rfl ?_
  intro p e s m args below meth c s₁ B hml hv
  obtain ⟨hargs, hsz, hP, hT, hD0⟩ := hv
  have hx := B.exec
  have hb := B.bytes
  have hr := B.returns
  have hts := atoms_spec (ws := wsL_pass) B.pre
  have hown : s.vm.findClass RL = some m.cls := findClass_of_methodNamed B.named
  have hlocks := B.notSynchronized
  subst hsz
  have hK := hT.1
  have hD := hD0.self (sz := s.heap.size)
  generalize hAe : va_A [(h0, .inr (5, [.ref ai, .ref pu, .ref pa, .ref ga, .ref sc, .ref hi, .ref gr, .int (nI me), .int (nI dp), .int (bI up), .int (nI mi), .int (nI ru), .long wp, .long wl])), (pa, .inr (2, [.ref p1, .ref p2])), (p1, .inl (cI, 601, .inl (nA ML))), (p2, .inl (cI, 601, .inl (zA SP))), (ai, .inr (0, [.ref a1])), (a1, .inl (cI, 600, .inl (nA C))), (gr, .inl (cJ, 20, .inr (.inl GR))), (ga, .inr (1, [.ref g1, .ref g2, .ref g3])), (g1, .inl (cZ, 20, .inl (bA UP))), (g2, .inl (cZ, 20, .inl (bA CL))), (g3, .inl (cJ, 20, .inr (.inl CO))), (ou, .inl (cJ, 1, .inr (.inl OU)))] s.heap.size = A at hD ⊢
  have hA : ∀ q : Nat, s.heap.size ≤ q → A q := fun q h => by rw [← hAe]; exact Or.inr h
  have hS : va_S A s.heap s.heap [] := va_S.rf
  obtain ⟨H, hHe⟩ : ∃ H : Heap, H = s.heap := ⟨_, rfl⟩
  have hS : va_S A s.heap H [] := by rw [hHe]; exact va_S.rf
  rw [← hHe] at hP
  suffices K0 : W p l e (headSpec wsL_pass ({ frames := 6, cells := 0, slots := 0, locals := 145 } : Room)).room s m args below meth c H [] 0 0 (MQ below (Qi9 D A [(h0, .inr (5, [.ref ai, .ref pu, .ref pa, .ref ga, .ref sc, .ref hi, .ref gr, .int (nI me), .int (nI dp), .int (bI up), .int (nI (mi + mn)), .int (nI ru), .long wp, .long ((pv me dp up UP CL mi (C, GR, CO, wl, ML, SP) mn).2.2.2.1)])), (pa, .inr (2, [.ref p1, .ref p2])), (p1, .inl (cI, 601, .inl (nA ((pv me dp up UP CL mi (C, GR, CO, wl, ML, SP) mn).2.2.2.2.1)))), (p2, .inl (cI, 601, .inl (zA ((pv me dp up UP CL mi (C, GR, CO, wl, ML, SP) mn).2.2.2.2.2)))), (ai, .inr (0, [.ref a1])), (a1, .inl (cI, 600, .inl (nA ((pv me dp up UP CL mi (C, GR, CO, wl, ML, SP) mn).1)))), (gr, .inl (cJ, 20, .inr (.inl ((pv me dp up UP CL mi (C, GR, CO, wl, ML, SP) mn).2.1)))), (ga, .inr (1, [.ref g1, .ref g2, .ref g3])), (g1, .inl (cZ, 20, .inl (bA UP))), (g2, .inl (cZ, 20, .inl (bA CL))), (g3, .inl (cJ, 20, .inr (.inl ((pv me dp up UP CL mi (C, GR, CO, wl, ML, SP) mn).2.2.1)))), (ou, .inl (cJ, 1, .inr (.inl (uN OU 0 ((nI (mi + mn)).toInt64)))))] (nI 0)) args s 0 0 A) (entryFrame m args 4) by rw [hHe] at K0; exact vx_ret K0
  refine W.eq (g2 := entryFrame m ([.ref h0, .int (nI mn), .ref ou] : List Value).toArray 4) (by rw [hargs]) ?_
  have hl := lv_entry ([.ref h0, .int (nI mn), .ref ou]) (n := 4) (Nat.le_of_ble_eq_true rfl)
  rw [lg_entry_eq]
  generalize (lg_sl ([.ref h0, .int (nI mn), .ref ou]) ++ List.replicate (4 - (lg_sl ([.ref h0, .int (nI mn), .ref ou])).length) Slot.unset).toArray = ls at hl ⊢
  have hl : lv_has ls 4 [(0, .ref h0), (1, .int (nI mn)), (2, .ref ou)] := hl
  generalize ([] : List Loc) = locs at hS ⊢
  refine lv_aload_n hx hb dL_pass_0 rfl (lv_at hl 2 rfl) ?_
  refine lv_iconst (v := nI 0) hx hb dL_pass_1 (by decide) ?_
  refine lv_aload_n hx hb dL_pass_2 rfl (lv_at hl 0 rfl) ?_
  refine lv_iload_n hx hb dL_pass_3 rfl (lv_at hl 1 rfl) ?_
  refine cr_i (wc := [(h0, .inr (5, [.ref ai, .ref pu, .ref pa, .ref ga, .ref sc, .ref hi, .ref gr, .int (nI me), .int (nI dp), .int (bI up), .int (nI mi), .int (nI ru), .long wp, .long wl])), (pa, .inr (2, [.ref p1, .ref p2])), (p1, .inl (cI, 601, .inl (nA ML))), (p2, .inl (cI, 601, .inl (zA SP))), (ai, .inr (0, [.ref a1])), (a1, .inl (cI, 600, .inl (nA C))), (gr, .inl (cJ, 20, .inr (.inl GR))), (ga, .inr (1, [.ref g1, .ref g2, .ref g3])), (g1, .inl (cZ, 20, .inl (bA UP))), (g2, .inl (cZ, 20, .inl (bA CL))), (g3, .inl (cJ, 20, .inr (.inl CO)))]) (w1 := [(h0, .inr (5, [.ref ai, .ref pu, .ref pa, .ref ga, .ref sc, .ref hi, .ref gr, .int (nI me), .int (nI dp), .int (bI up), .int (nI (mi + mn)), .int (nI ru), .long wp, .long ((pv me dp up UP CL mi (C, GR, CO, wl, ML, SP) mn).2.2.2.1)])), (pa, .inr (2, [.ref p1, .ref p2])), (p1, .inl (cI, 601, .inl (nA ((pv me dp up UP CL mi (C, GR, CO, wl, ML, SP) mn).2.2.2.2.1)))), (p2, .inl (cI, 601, .inl (zA ((pv me dp up UP CL mi (C, GR, CO, wl, ML, SP) mn).2.2.2.2.2)))), (ai, .inr (0, [.ref a1])), (a1, .inl (cI, 600, .inl (nA ((pv me dp up UP CL mi (C, GR, CO, wl, ML, SP) mn).1)))), (gr, .inl (cJ, 20, .inr (.inl ((pv me dp up UP CL mi (C, GR, CO, wl, ML, SP) mn).2.1)))), (ga, .inr (1, [.ref g1, .ref g2, .ref g3])), (g1, .inl (cZ, 20, .inl (bA UP))), (g2, .inl (cZ, 20, .inl (bA CL))), (g3, .inl (cJ, 20, .inr (.inl ((pv me dp up UP CL mi (C, GR, CO, wl, ML, SP) mn).2.2.1))))]) (ws2 := [(h0, .inr (5, [.ref ai, .ref pu, .ref pa, .ref ga, .ref sc, .ref hi, .ref gr, .int (nI me), .int (nI dp), .int (bI up), .int (nI (mi + mn)), .int (nI ru), .long wp, .long ((pv me dp up UP CL mi (C, GR, CO, wl, ML, SP) mn).2.2.2.1)])), (pa, .inr (2, [.ref p1, .ref p2])), (p1, .inl (cI, 601, .inl (nA ((pv me dp up UP CL mi (C, GR, CO, wl, ML, SP) mn).2.2.2.2.1)))), (p2, .inl (cI, 601, .inl (zA ((pv me dp up UP CL mi (C, GR, CO, wl, ML, SP) mn).2.2.2.2.2)))), (ai, .inr (0, [.ref a1])), (a1, .inl (cI, 600, .inl (nA ((pv me dp up UP CL mi (C, GR, CO, wl, ML, SP) mn).1)))), (gr, .inl (cJ, 20, .inr (.inl ((pv me dp up UP CL mi (C, GR, CO, wl, ML, SP) mn).2.1)))), (ga, .inr (1, [.ref g1, .ref g2, .ref g3])), (g1, .inl (cZ, 20, .inl (bA UP))), (g2, .inl (cZ, 20, .inl (bA CL))), (g3, .inl (cJ, 20, .inr (.inl ((pv me dp up UP CL mi (C, GR, CO, wl, ML, SP) mn).2.2.1)))), (ou, .inl (cJ, 1, .inr (.inl OU)))]) hP hD hS hA [0, 1, 2, 3, 4, 5, 6, 7, 8, 9, 10] rfl rfl rfl (va_runV (As := [.int (nI mn)]) (rest := [.int (nI 0), .ref ou]) ⟨hx, hb, hml, hown, hts⟩ (c_X5_pass l D cI cJ cZ h0 ai pu pa ga sc hi gr me dp up mi ru wp wl p1 p2 ML SP a1 C GR g1 g2 g3 UP CL CO mn (by assumption) (by assumption) (by assumption) (by assumption) (by assumption) H.size) (cwV 1 hts gL_pass_X5_pass rfl rfl rfl (by decide +kernel) ⟨Nat.le_of_ble_eq_true rfl, Nat.le_of_ble_eq_true rfl⟩) (pvV hT hP hD [0, 1, 2, 3, 4, 5, 6, 7, 8, 9, 10] rfl rfl 0 rfl rfl) rfl rfl hl.1 rfl (lv_room (Nat.le_of_ble_eq_true rfl)) dL_pass_4 ⟨Nat.zero_le _, Nat.zero_le _⟩) (fun H locs hP hD hS => ?_)
  refine lv_i2l (v := (nI (mi + mn)).toInt64) hx hb dL_pass_7 rfl ?_
  refine ast_L (x := (nI (mi + mn)).toInt64) hx hb hK hP hD hS 11 1 rfl rfl 0 rfl (by omega) (Nat.le_of_ble_eq_true rfl) dL_pass_8 (fun H locs hP hD hS => ?_)
  have hP : va_P D vwCl [(h0, .inr (5, [.ref ai, .ref pu, .ref pa, .ref ga, .ref sc, .ref hi, .ref gr, .int (nI me), .int (nI dp), .int (bI up), .int (nI (mi + mn)), .int (nI ru), .long wp, .long ((pv me dp up UP CL mi (C, GR, CO, wl, ML, SP) mn).2.2.2.1)])), (pa, .inr (2, [.ref p1, .ref p2])), (p1, .inl (cI, 601, .inl (nA ((pv me dp up UP CL mi (C, GR, CO, wl, ML, SP) mn).2.2.2.2.1)))), (p2, .inl (cI, 601, .inl (zA ((pv me dp up UP CL mi (C, GR, CO, wl, ML, SP) mn).2.2.2.2.2)))), (ai, .inr (0, [.ref a1])), (a1, .inl (cI, 600, .inl (nA ((pv me dp up UP CL mi (C, GR, CO, wl, ML, SP) mn).1)))), (gr, .inl (cJ, 20, .inr (.inl ((pv me dp up UP CL mi (C, GR, CO, wl, ML, SP) mn).2.1)))), (ga, .inr (1, [.ref g1, .ref g2, .ref g3])), (g1, .inl (cZ, 20, .inl (bA UP))), (g2, .inl (cZ, 20, .inl (bA CL))), (g3, .inl (cJ, 20, .inr (.inl ((pv me dp up UP CL mi (C, GR, CO, wl, ML, SP) mn).2.2.1)))), (ou, .inl (cJ, 1, .inr (.inl (uN OU 0 ((nI (mi + mn)).toInt64)))))] H := hP
  have hD : va_D A [(h0, .inr (5, [.ref ai, .ref pu, .ref pa, .ref ga, .ref sc, .ref hi, .ref gr, .int (nI me), .int (nI dp), .int (bI up), .int (nI (mi + mn)), .int (nI ru), .long wp, .long ((pv me dp up UP CL mi (C, GR, CO, wl, ML, SP) mn).2.2.2.1)])), (pa, .inr (2, [.ref p1, .ref p2])), (p1, .inl (cI, 601, .inl (nA ((pv me dp up UP CL mi (C, GR, CO, wl, ML, SP) mn).2.2.2.2.1)))), (p2, .inl (cI, 601, .inl (zA ((pv me dp up UP CL mi (C, GR, CO, wl, ML, SP) mn).2.2.2.2.2)))), (ai, .inr (0, [.ref a1])), (a1, .inl (cI, 600, .inl (nA ((pv me dp up UP CL mi (C, GR, CO, wl, ML, SP) mn).1)))), (gr, .inl (cJ, 20, .inr (.inl ((pv me dp up UP CL mi (C, GR, CO, wl, ML, SP) mn).2.1)))), (ga, .inr (1, [.ref g1, .ref g2, .ref g3])), (g1, .inl (cZ, 20, .inl (bA UP))), (g2, .inl (cZ, 20, .inl (bA CL))), (g3, .inl (cJ, 20, .inr (.inl ((pv me dp up UP CL mi (C, GR, CO, wl, ML, SP) mn).2.2.1)))), (ou, .inl (cJ, 1, .inr (.inl (uN OU 0 ((nI (mi + mn)).toInt64)))))] := hD
  refine lv_goto (tgt := 18) hx hb dL_pass_9 (by decide) ?_
  refine lv_iconst (v := nI 0) hx hb dL_pass_18 (by decide) ?_
  exact fin_i hx hb hr hlocks hP hD hS (rfl) dL_pass_19
set_option maxHeartbeats 4000000 in
set_option maxRecDepth 100000 in
theorem w_L_groundAnew (l : Launch) (D : va_G) (cI cJ cZ : ClassId) (h0 : Nat) (ai : Nat) (pu : Nat) (pa : Nat) (ga : Nat) (sc : Nat) (hi : Nat) (gr : Nat) (me : Nat) (dp : Nat) (up : Bool) (mi : Nat) (ru : Nat) (wp : Int64) (wl : Int64) (u1 : Nat) (u2 : Nat) (u3 : Nat) (u4 : Nat) (u5 : Nat) (PK : Nat → Nat) (PL : Nat → Nat) (PS : Nat → Nat) (PN : Nat → Nat) (PM : Nat → Nat) (pn : Nat) (p1 : Nat) (p2 : Nat) (ML : Nat → Nat) (SP : Nat → Int) (ki : Nat) (ou : Nat) (OU : Nat → Int64) (hki : ki < 20) (hpn : pn ≤ 100) (hmi : mi ≤ 600) (hpu : ∀ i, i < pn → PM i ≤ mi ∧ PK i < 20 ∧ PL i < 10 ∧ 1 ≤ PS i ∧ PS i ≤ 3) (hML : ∀ n, ML n < 10) (hSP : ∀ n, -2 < SP n ∧ SP n < 2) (sz : Nat) : vx_Met l yL_groundAnew wsL_groundAnew ({ frames := 4, cells := 0, slots := 0, locals := 92 } : Room) (va_Pc [.ref h0, .int (nI ki), .ref ou] (mPre D cI cJ cZ [(h0, .inr (5, [.ref ai, .ref pu, .ref pa, .ref ga, .ref sc, .ref hi, .ref gr, .int (nI me), .int (nI dp), .int (bI up), .int (nI mi), .int (nI ru), .long wp, .long wl])), (pu, .inr (3, [.ref u1, .ref u2, .ref u3, .ref u4, .ref u5, .int (nI pn)])), (u1, .inl (cI, 100, .inl (nA PK))), (u2, .inl (cI, 100, .inl (nA PL))), (u3, .inl (cI, 100, .inl (nA PS))), (u4, .inl (cI, 100, .inl (nA PN))), (u5, .inl (cI, 100, .inl (nA PM))), (pa, .inr (2, [.ref p1, .ref p2])), (p1, .inl (cI, 601, .inl (nA ML))), (p2, .inl (cI, 601, .inl (zA SP))), (ou, .inl (cJ, 1, .inr (.inl OU)))] sz)) (Qi9 D (va_A [(h0, .inr (5, [.ref ai, .ref pu, .ref pa, .ref ga, .ref sc, .ref hi, .ref gr, .int (nI me), .int (nI dp), .int (bI up), .int (nI mi), .int (nI ru), .long wp, .long wl])), (pu, .inr (3, [.ref u1, .ref u2, .ref u3, .ref u4, .ref u5, .int (nI pn)])), (u1, .inl (cI, 100, .inl (nA PK))), (u2, .inl (cI, 100, .inl (nA PL))), (u3, .inl (cI, 100, .inl (nA PS))), (u4, .inl (cI, 100, .inl (nA PN))), (u5, .inl (cI, 100, .inl (nA PM))), (pa, .inr (2, [.ref p1, .ref p2])), (p1, .inl (cI, 601, .inl (nA ML))), (p2, .inl (cI, 601, .inl (zA SP))), (ou, .inl (cJ, 1, .inr (.inl OU)))] sz) [(h0, .inr (5, [.ref ai, .ref pu, .ref pa, .ref ga, .ref sc, .ref hi, .ref gr, .int (nI me), .int (nI dp), .int (bI up), .int (nI mi), .int (nI ru), .long wp, .long wl])), (pu, .inr (3, [.ref u1, .ref u2, .ref u3, .ref u4, .ref u5, .int (nI pn)])), (u1, .inl (cI, 100, .inl (nA PK))), (u2, .inl (cI, 100, .inl (nA PL))), (u3, .inl (cI, 100, .inl (nA PS))), (u4, .inl (cI, 100, .inl (nA PN))), (u5, .inl (cI, 100, .inl (nA PM))), (pa, .inr (2, [.ref p1, .ref p2])), (p1, .inl (cI, 601, .inl (nA ML))), (p2, .inl (cI, 601, .inl (zA SP))), (ou, .inl (cJ, 1, .inr (.inl (uN OU 0 (GAn PK PL PS PN PM ML SP mi ki pn)))))] (nI 0)) XN 0 0 (va_A [(h0, .inr (5, [.ref ai, .ref pu, .ref pa, .ref ga, .ref sc, .ref hi, .ref gr, .int (nI me), .int (nI dp), .int (bI up), .int (nI mi), .int (nI ru), .long wp, .long wl])), (pu, .inr (3, [.ref u1, .ref u2, .ref u3, .ref u4, .ref u5, .int (nI pn)])), (u1, .inl (cI, 100, .inl (nA PK))), (u2, .inl (cI, 100, .inl (nA PL))), (u3, .inl (cI, 100, .inl (nA PS))), (u4, .inl (cI, 100, .inl (nA PN))), (u5, .inl (cI, 100, .inl (nA PM))), (pa, .inr (2, [.ref p1, .ref p2])), (p1, .inl (cI, 601, .inl (nA ML))), (p2, .inl (cI, 601, .inl (zA SP))), (ou, .inl (cJ, 1, .inr (.inl OU)))] sz) := by
  refine vx_ofWH (hh := [(0, 8, 11, 13)]) (cc := cL_groundAnew) (maxL := 4) (ret := (some .int)) (by decide) rfl ?_
  intro p e s m args below meth c s₁ B hml hv
  obtain ⟨hargs, hsz, hP, hT, hD0⟩ := hv
  have hx := B.exec
  have hb := B.bytes
  have hr := B.returns
  have hts := atoms_spec (ws := wsL_groundAnew) B.pre
  have hown : s.vm.findClass RL = some m.cls := findClass_of_methodNamed B.named
  have hlocks := B.notSynchronized
  subst hsz
  have hK := hT.1
  have hD := hD0.self (sz := s.heap.size)
  generalize hAe : va_A [(h0, .inr (5, [.ref ai, .ref pu, .ref pa, .ref ga, .ref sc, .ref hi, .ref gr, .int (nI me), .int (nI dp), .int (bI up), .int (nI mi), .int (nI ru), .long wp, .long wl])), (pu, .inr (3, [.ref u1, .ref u2, .ref u3, .ref u4, .ref u5, .int (nI pn)])), (u1, .inl (cI, 100, .inl (nA PK))), (u2, .inl (cI, 100, .inl (nA PL))), (u3, .inl (cI, 100, .inl (nA PS))), (u4, .inl (cI, 100, .inl (nA PN))), (u5, .inl (cI, 100, .inl (nA PM))), (pa, .inr (2, [.ref p1, .ref p2])), (p1, .inl (cI, 601, .inl (nA ML))), (p2, .inl (cI, 601, .inl (zA SP))), (ou, .inl (cJ, 1, .inr (.inl OU)))] s.heap.size = A at hD ⊢
  have hA : ∀ q : Nat, s.heap.size ≤ q → A q := fun q h => by rw [← hAe]; exact Or.inr h
  have hS : va_S A s.heap s.heap [] := va_S.rf
  obtain ⟨H, hHe⟩ : ∃ H : Heap, H = s.heap := ⟨_, rfl⟩
  have hS : va_S A s.heap H [] := by rw [hHe]; exact va_S.rf
  rw [← hHe] at hP
  suffices K0 : W p l e (headSpec wsL_groundAnew ({ frames := 4, cells := 0, slots := 0, locals := 92 } : Room)).room s m args below meth c H [] 0 0 (MQ below (Qi9 D A [(h0, .inr (5, [.ref ai, .ref pu, .ref pa, .ref ga, .ref sc, .ref hi, .ref gr, .int (nI me), .int (nI dp), .int (bI up), .int (nI mi), .int (nI ru), .long wp, .long wl])), (pu, .inr (3, [.ref u1, .ref u2, .ref u3, .ref u4, .ref u5, .int (nI pn)])), (u1, .inl (cI, 100, .inl (nA PK))), (u2, .inl (cI, 100, .inl (nA PL))), (u3, .inl (cI, 100, .inl (nA PS))), (u4, .inl (cI, 100, .inl (nA PN))), (u5, .inl (cI, 100, .inl (nA PM))), (pa, .inr (2, [.ref p1, .ref p2])), (p1, .inl (cI, 601, .inl (nA ML))), (p2, .inl (cI, 601, .inl (zA SP))), (ou, .inl (cJ, 1, .inr (.inl (uN OU 0 (GAn PK PL PS PN PM ML SP mi ki pn)))))] (nI 0)) args s 0 0 A) (entryFrame m args 4) by rw [hHe] at K0; exact vx_ret K0
  refine W.eq (g2 := entryFrame m ([.ref h0, .int (nI ki), .ref ou] : List Value).toArray 4) (by rw [hargs]) ?_
  have hl := lv_entry ([.ref h0, .int (nI ki), .ref ou]) (n := 4) (Nat.le_of_ble_eq_true rfl)
  rw [lg_entry_eq]
  generalize (lg_sl ([.ref h0, .int (nI ki), .ref ou]) ++ List.replicate (4 - (lg_sl ([.ref h0, .int (nI ki), .ref ou])).length) Slot.unset).toArray = ls at hl ⊢
  have hl : lv_has ls 4 [(0, .ref h0), (1, .int (nI ki)), (2, .ref ou)] := hl
  generalize ([] : List Loc) = locs at hS ⊢
  refine lv_aload_n hx hb dL_groundAnew_0 rfl (lv_at hl 2 rfl) ?_
  refine lv_iconst (v := nI 0) hx hb dL_groundAnew_1 (by decide) ?_
  refine lv_aload_n hx hb dL_groundAnew_2 rfl (lv_at hl 0 rfl) ?_
  refine lv_iload_n hx hb dL_groundAnew_3 rfl (lv_at hl 1 rfl) ?_
  refine cr_l (wc := [(h0, .inr (5, [.ref ai, .ref pu, .ref pa, .ref ga, .ref sc, .ref hi, .ref gr, .int (nI me), .int (nI dp), .int (bI up), .int (nI mi), .int (nI ru), .long wp, .long wl])), (pu, .inr (3, [.ref u1, .ref u2, .ref u3, .ref u4, .ref u5, .int (nI pn)])), (u1, .inl (cI, 100, .inl (nA PK))), (u2, .inl (cI, 100, .inl (nA PL))), (u3, .inl (cI, 100, .inl (nA PS))), (u4, .inl (cI, 100, .inl (nA PN))), (u5, .inl (cI, 100, .inl (nA PM))), (pa, .inr (2, [.ref p1, .ref p2])), (p1, .inl (cI, 601, .inl (nA ML))), (p2, .inl (cI, 601, .inl (zA SP)))]) (w1 := [(h0, .inr (5, [.ref ai, .ref pu, .ref pa, .ref ga, .ref sc, .ref hi, .ref gr, .int (nI me), .int (nI dp), .int (bI up), .int (nI mi), .int (nI ru), .long wp, .long wl])), (pu, .inr (3, [.ref u1, .ref u2, .ref u3, .ref u4, .ref u5, .int (nI pn)])), (u1, .inl (cI, 100, .inl (nA PK))), (u2, .inl (cI, 100, .inl (nA PL))), (u3, .inl (cI, 100, .inl (nA PS))), (u4, .inl (cI, 100, .inl (nA PN))), (u5, .inl (cI, 100, .inl (nA PM))), (pa, .inr (2, [.ref p1, .ref p2])), (p1, .inl (cI, 601, .inl (nA ML))), (p2, .inl (cI, 601, .inl (zA SP)))]) (ws2 := [(h0, .inr (5, [.ref ai, .ref pu, .ref pa, .ref ga, .ref sc, .ref hi, .ref gr, .int (nI me), .int (nI dp), .int (bI up), .int (nI mi), .int (nI ru), .long wp, .long wl])), (pu, .inr (3, [.ref u1, .ref u2, .ref u3, .ref u4, .ref u5, .int (nI pn)])), (u1, .inl (cI, 100, .inl (nA PK))), (u2, .inl (cI, 100, .inl (nA PL))), (u3, .inl (cI, 100, .inl (nA PS))), (u4, .inl (cI, 100, .inl (nA PN))), (u5, .inl (cI, 100, .inl (nA PM))), (pa, .inr (2, [.ref p1, .ref p2])), (p1, .inl (cI, 601, .inl (nA ML))), (p2, .inl (cI, 601, .inl (zA SP))), (ou, .inl (cJ, 1, .inr (.inl OU)))]) hP hD hS hA [0, 1, 2, 3, 4, 5, 6, 7, 8, 9] rfl rfl rfl (va_runV (As := [.int (nI ki)]) (rest := [.int (nI 0), .ref ou]) ⟨hx, hb, hml, hown, hts⟩ (c_X5_groundAnew l D cI cJ cZ h0 ai pu pa ga sc hi gr me dp up mi ru wp wl u1 u2 u3 u4 u5 PK PL PS PN PM pn p1 p2 ML SP ki (by assumption) (by assumption) (by assumption) (by assumption) (by assumption) (by assumption) H.size) (cwV 1 hts gL_groundAnew_X5_groundAnew rfl rfl rfl (by decide +kernel) ⟨Nat.le_of_ble_eq_true rfl, Nat.le_of_ble_eq_true rfl⟩) (pvV hT hP hD [0, 1, 2, 3, 4, 5, 6, 7, 8, 9] rfl rfl 0 rfl rfl) rfl rfl hl.1 rfl (lv_room (Nat.le_of_ble_eq_true rfl)) dL_groundAnew_4 ⟨Nat.zero_le _, Nat.zero_le _⟩) (fun H locs hP hD hS => ?_)
  refine ast_L (x := GAn PK PL PS PN PM ML SP mi ki pn) hx hb hK hP hD hS 10 1 rfl rfl 0 rfl (by omega) (Nat.le_of_ble_eq_true rfl) dL_groundAnew_7 (fun H locs hP hD hS => ?_)
  have hP : va_P D vwCl [(h0, .inr (5, [.ref ai, .ref pu, .ref pa, .ref ga, .ref sc, .ref hi, .ref gr, .int (nI me), .int (nI dp), .int (bI up), .int (nI mi), .int (nI ru), .long wp, .long wl])), (pu, .inr (3, [.ref u1, .ref u2, .ref u3, .ref u4, .ref u5, .int (nI pn)])), (u1, .inl (cI, 100, .inl (nA PK))), (u2, .inl (cI, 100, .inl (nA PL))), (u3, .inl (cI, 100, .inl (nA PS))), (u4, .inl (cI, 100, .inl (nA PN))), (u5, .inl (cI, 100, .inl (nA PM))), (pa, .inr (2, [.ref p1, .ref p2])), (p1, .inl (cI, 601, .inl (nA ML))), (p2, .inl (cI, 601, .inl (zA SP))), (ou, .inl (cJ, 1, .inr (.inl (uN OU 0 (GAn PK PL PS PN PM ML SP mi ki pn)))))] H := hP
  have hD : va_D A [(h0, .inr (5, [.ref ai, .ref pu, .ref pa, .ref ga, .ref sc, .ref hi, .ref gr, .int (nI me), .int (nI dp), .int (bI up), .int (nI mi), .int (nI ru), .long wp, .long wl])), (pu, .inr (3, [.ref u1, .ref u2, .ref u3, .ref u4, .ref u5, .int (nI pn)])), (u1, .inl (cI, 100, .inl (nA PK))), (u2, .inl (cI, 100, .inl (nA PL))), (u3, .inl (cI, 100, .inl (nA PS))), (u4, .inl (cI, 100, .inl (nA PN))), (u5, .inl (cI, 100, .inl (nA PM))), (pa, .inr (2, [.ref p1, .ref p2])), (p1, .inl (cI, 601, .inl (nA ML))), (p2, .inl (cI, 601, .inl (zA SP))), (ou, .inl (cJ, 1, .inr (.inl (uN OU 0 (GAn PK PL PS PN PM ML SP mi ki pn)))))] := hD
  refine lv_goto (tgt := 14) hx hb dL_groundAnew_8 (by decide) ?_
  refine lv_iconst (v := nI 0) hx hb dL_groundAnew_14 (by decide) ?_
  exact fin_i hx hb hr hlocks hP hD hS (rfl) dL_groundAnew_15
set_option maxHeartbeats 4000000 in
set_option maxRecDepth 100000 in
theorem w_L_seen (l : Launch) (D : va_G) (cI cJ cZ : ClassId) (h0 : Nat) (ai : Nat) (pu : Nat) (pa : Nat) (ga : Nat) (sc : Nat) (hi : Nat) (gr : Nat) (me : Nat) (dp : Nat) (up : Bool) (mi : Nat) (ru : Nat) (wp : Int64) (wl : Int64) (HI : Nat → Nat) (a1 : Nat) (C : Nat → Nat) (ki : Nat) (ev : Nat) (ou : Nat) (OU : Nat → Int64) (hki : ki < 20) (hev : ev < 4) (hme : me < 10) (hHI : ∀ k, k < 20 → HI k ≤ 9) (hE0 : 0 ≤ (eb9 C me ki ev).toInt) (hE1 : (eb9 C me ki ev).toInt < 268435456) (sz : Nat) : vx_Met l yL_seen wsL_seen ({ frames := 6, cells := 0, slots := 0, locals := 148 } : Room) (va_Pc [.ref h0, .int (nI ki), .int (nI ev), .ref ou] (mPre D cI cJ cZ [(h0, .inr (5, [.ref ai, .ref pu, .ref pa, .ref ga, .ref sc, .ref hi, .ref gr, .int (nI me), .int (nI dp), .int (bI up), .int (nI mi), .int (nI ru), .long wp, .long wl])), (hi, .inl (cI, 20, .inl (nA HI))), (ai, .inr (0, [.ref a1])), (a1, .inl (cI, 600, .inl (nA C))), (ou, .inl (cJ, 1, .inr (.inl OU)))] sz)) (Qi9 D (va_A [(h0, .inr (5, [.ref ai, .ref pu, .ref pa, .ref ga, .ref sc, .ref hi, .ref gr, .int (nI me), .int (nI dp), .int (bI up), .int (nI mi), .int (nI ru), .long wp, .long wl])), (hi, .inl (cI, 20, .inl (nA HI))), (ai, .inr (0, [.ref a1])), (a1, .inl (cI, 600, .inl (nA C))), (ou, .inl (cJ, 1, .inr (.inl OU)))] sz) [(h0, .inr (5, [.ref ai, .ref pu, .ref pa, .ref ga, .ref sc, .ref hi, .ref gr, .int (nI me), .int (nI dp), .int (bI up), .int (nI mi), .int (nI ru), .long wp, .long wl])), (hi, .inl (cI, 20, .inl (nA HI))), (ai, .inr (0, [.ref a1])), (a1, .inl (cI, 600, .inl (nA C))), (ou, .inl (cJ, 1, .inr (.inl (uN OU 0 (if ki < rch HI ev 20 0 then bt9 (we9 (fun aa => eb9 C me aa ev) (FP.l2d (eb9 C me ki ev)) ki) else -1)))))] (nI 0)) XN 0 0 (va_A [(h0, .inr (5, [.ref ai, .ref pu, .ref pa, .ref ga, .ref sc, .ref hi, .ref gr, .int (nI me), .int (nI dp), .int (bI up), .int (nI mi), .int (nI ru), .long wp, .long wl])), (hi, .inl (cI, 20, .inl (nA HI))), (ai, .inr (0, [.ref a1])), (a1, .inl (cI, 600, .inl (nA C))), (ou, .inl (cJ, 1, .inr (.inl OU)))] sz) := by
  refine vx_ofWH (hh := [(0, 9, 12, 13), (0, 9, 16, 15)]) (cc := cL_seen) (maxL := 5) (ret := (some .int)) (by decide) rfl ?_
  intro p e s m args below meth c s₁ B hml hv
  obtain ⟨hargs, hsz, hP, hT, hD0⟩ := hv
  have hx := B.exec
  have hb := B.bytes
  have hr := B.returns
  have hts := atoms_spec (ws := wsL_seen) B.pre
  have hown : s.vm.findClass RL = some m.cls := findClass_of_methodNamed B.named
  have hlocks := B.notSynchronized
  subst hsz
  have hK := hT.1
  have hD := hD0.self (sz := s.heap.size)
  generalize hAe : va_A [(h0, .inr (5, [.ref ai, .ref pu, .ref pa, .ref ga, .ref sc, .ref hi, .ref gr, .int (nI me), .int (nI dp), .int (bI up), .int (nI mi), .int (nI ru), .long wp, .long wl])), (hi, .inl (cI, 20, .inl (nA HI))), (ai, .inr (0, [.ref a1])), (a1, .inl (cI, 600, .inl (nA C))), (ou, .inl (cJ, 1, .inr (.inl OU)))] s.heap.size = A at hD ⊢
  have hA : ∀ q : Nat, s.heap.size ≤ q → A q := fun q h => by rw [← hAe]; exact Or.inr h
  have hS : va_S A s.heap s.heap [] := va_S.rf
  obtain ⟨H, hHe⟩ : ∃ H : Heap, H = s.heap := ⟨_, rfl⟩
  have hS : va_S A s.heap H [] := by rw [hHe]; exact va_S.rf
  rw [← hHe] at hP
  suffices K0 : W p l e (headSpec wsL_seen ({ frames := 6, cells := 0, slots := 0, locals := 148 } : Room)).room s m args below meth c H [] 0 0 (MQ below (Qi9 D A [(h0, .inr (5, [.ref ai, .ref pu, .ref pa, .ref ga, .ref sc, .ref hi, .ref gr, .int (nI me), .int (nI dp), .int (bI up), .int (nI mi), .int (nI ru), .long wp, .long wl])), (hi, .inl (cI, 20, .inl (nA HI))), (ai, .inr (0, [.ref a1])), (a1, .inl (cI, 600, .inl (nA C))), (ou, .inl (cJ, 1, .inr (.inl (uN OU 0 (if ki < rch HI ev 20 0 then bt9 (we9 (fun aa => eb9 C me aa ev) (FP.l2d (eb9 C me ki ev)) ki) else -1)))))] (nI 0)) args s 0 0 A) (entryFrame m args 5) by rw [hHe] at K0; exact vx_ret K0
  refine W.eq (g2 := entryFrame m ([.ref h0, .int (nI ki), .int (nI ev), .ref ou] : List Value).toArray 5) (by rw [hargs]) ?_
  have hl := lv_entry ([.ref h0, .int (nI ki), .int (nI ev), .ref ou]) (n := 5) (Nat.le_of_ble_eq_true rfl)
  rw [lg_entry_eq]
  generalize (lg_sl ([.ref h0, .int (nI ki), .int (nI ev), .ref ou]) ++ List.replicate (5 - (lg_sl ([.ref h0, .int (nI ki), .int (nI ev), .ref ou])).length) Slot.unset).toArray = ls at hl ⊢
  have hl : lv_has ls 5 [(0, .ref h0), (1, .int (nI ki)), (2, .int (nI ev)), (3, .ref ou)] := hl
  generalize ([] : List Loc) = locs at hS ⊢
  refine lv_aload_n hx hb dL_seen_0 rfl (lv_at hl 3 rfl) ?_
  refine lv_iconst (v := nI 0) hx hb dL_seen_1 (by decide) ?_
  refine lv_aload_n hx hb dL_seen_2 rfl (lv_at hl 0 rfl) ?_
  refine lv_iload_n hx hb dL_seen_3 rfl (lv_at hl 1 rfl) ?_
  refine lv_iload_n hx hb dL_seen_4 rfl (lv_at hl 2 rfl) ?_
  refine cr_l (wc := [(h0, .inr (5, [.ref ai, .ref pu, .ref pa, .ref ga, .ref sc, .ref hi, .ref gr, .int (nI me), .int (nI dp), .int (bI up), .int (nI mi), .int (nI ru), .long wp, .long wl])), (hi, .inl (cI, 20, .inl (nA HI))), (ai, .inr (0, [.ref a1])), (a1, .inl (cI, 600, .inl (nA C)))]) (w1 := [(h0, .inr (5, [.ref ai, .ref pu, .ref pa, .ref ga, .ref sc, .ref hi, .ref gr, .int (nI me), .int (nI dp), .int (bI up), .int (nI mi), .int (nI ru), .long wp, .long wl])), (hi, .inl (cI, 20, .inl (nA HI))), (ai, .inr (0, [.ref a1])), (a1, .inl (cI, 600, .inl (nA C)))]) (ws2 := [(h0, .inr (5, [.ref ai, .ref pu, .ref pa, .ref ga, .ref sc, .ref hi, .ref gr, .int (nI me), .int (nI dp), .int (bI up), .int (nI mi), .int (nI ru), .long wp, .long wl])), (hi, .inl (cI, 20, .inl (nA HI))), (ai, .inr (0, [.ref a1])), (a1, .inl (cI, 600, .inl (nA C))), (ou, .inl (cJ, 1, .inr (.inl OU)))]) hP hD hS hA [0, 1, 2, 3] rfl rfl rfl (va_runV (As := [.int (nI ki), .int (nI ev)]) (rest := [.int (nI 0), .ref ou]) ⟨hx, hb, hml, hown, hts⟩ (c_X5_seen l D cI cJ cZ h0 ai pu pa ga sc hi gr me dp up mi ru wp wl HI a1 C ki ev (by assumption) (by assumption) (by assumption) (by assumption) (by assumption) (by assumption) H.size) (cwV 2 hts gL_seen_X5_seen rfl rfl rfl (by decide +kernel) ⟨Nat.le_of_ble_eq_true rfl, Nat.le_of_ble_eq_true rfl⟩) (pvV hT hP hD [0, 1, 2, 3] rfl rfl 0 rfl rfl) rfl rfl hl.1 rfl (lv_room (Nat.le_of_ble_eq_true rfl)) dL_seen_5 ⟨Nat.zero_le _, Nat.zero_le _⟩) (fun H locs hP hD hS => ?_)
  refine ast_L (x := if ki < rch HI ev 20 0 then bt9 (we9 (fun aa => eb9 C me aa ev) (FP.l2d (eb9 C me ki ev)) ki) else -1) hx hb hK hP hD hS 4 1 rfl rfl 0 rfl (by omega) (Nat.le_of_ble_eq_true rfl) dL_seen_8 (fun H locs hP hD hS => ?_)
  have hP : va_P D vwCl [(h0, .inr (5, [.ref ai, .ref pu, .ref pa, .ref ga, .ref sc, .ref hi, .ref gr, .int (nI me), .int (nI dp), .int (bI up), .int (nI mi), .int (nI ru), .long wp, .long wl])), (hi, .inl (cI, 20, .inl (nA HI))), (ai, .inr (0, [.ref a1])), (a1, .inl (cI, 600, .inl (nA C))), (ou, .inl (cJ, 1, .inr (.inl (uN OU 0 (if ki < rch HI ev 20 0 then bt9 (we9 (fun aa => eb9 C me aa ev) (FP.l2d (eb9 C me ki ev)) ki) else -1)))))] H := hP
  have hD : va_D A [(h0, .inr (5, [.ref ai, .ref pu, .ref pa, .ref ga, .ref sc, .ref hi, .ref gr, .int (nI me), .int (nI dp), .int (bI up), .int (nI mi), .int (nI ru), .long wp, .long wl])), (hi, .inl (cI, 20, .inl (nA HI))), (ai, .inr (0, [.ref a1])), (a1, .inl (cI, 600, .inl (nA C))), (ou, .inl (cJ, 1, .inr (.inl (uN OU 0 (if ki < rch HI ev 20 0 then bt9 (we9 (fun aa => eb9 C me aa ev) (FP.l2d (eb9 C me ki ev)) ki) else -1)))))] := hD
  refine lv_goto (tgt := 20) hx hb dL_seen_9 (by decide) ?_
  refine lv_iconst (v := nI 0) hx hb dL_seen_20 (by decide) ?_
  exact fin_i hx hb hr hlocks hP hD hS (rfl) dL_seen_21
set_option maxHeartbeats 4000000 in
set_option maxRecDepth 100000 in
theorem w_L_drops_b0 (l : Launch) (hlst : l.stackTraces = false) (D : va_G) (cI cJ cZ : ClassId) (h0 : Nat) (ai : Nat) (pu : Nat) (pa : Nat) (ga : Nat) (sc : Nat) (hi : Nat) (gr : Nat) (me : Nat) (dp : Nat) (up : Bool) (mi : Nat) (ru : Nat) (wp : Int64) (wl : Int64) (x0 : Int32) (x1 : Int32) (x2 : Int32) (x3 : Int32) (ou : Nat) (hbad : x0.toInt < 0 ∨ 20 ≤ x0.toInt) (sz : Nat) : vx_Met l yL_drops wsL_drops ({ frames := 8, cells := 1, slots := 6, locals := 126 } : Room) (va_Pc [.ref h0, .int x0, .int x1, .int x2, .int x3, .ref ou] (xPre D cI cJ cZ [(h0, .inr (5, [.ref ai, .ref pu, .ref pa, .ref ga, .ref sc, .ref hi, .ref gr, .int (nI me), .int (nI dp), .int (bI up), .int (nI mi), .int (nI ru), .long wp, .long wl]))] sz)) (Qi9 D (va_A [(h0, .inr (5, [.ref ai, .ref pu, .ref pa, .ref ga, .ref sc, .ref hi, .ref gr, .int (nI me), .int (nI dp), .int (bI up), .int (nI mi), .int (nI ru), .long wp, .long wl]))] sz) [(h0, .inr (5, [.ref ai, .ref pu, .ref pa, .ref ga, .ref sc, .ref hi, .ref gr, .int (nI me), .int (nI dp), .int (bI up), .int (nI mi), .int (nI ru), .long wp, .long wl]))] (nI 1)) XN 1 6 (va_A [(h0, .inr (5, [.ref ai, .ref pu, .ref pa, .ref ga, .ref sc, .ref hi, .ref gr, .int (nI me), .int (nI dp), .int (bI up), .int (nI mi), .int (nI ru), .long wp, .long wl]))] sz) := by
  refine vx_ofWH (hh := [(0, 14, 17, 13), (0, 14, 21, 15), (0, 14, 25, 17)]) (cc := cL_drops) (maxL := 7) (ret := (some .int)) (by decide) rfl ?_
  intro p e s m args below meth c s₁ B hml hv
  obtain ⟨hargs, ⟨hsz, hP, hT, hD0⟩, hST, hSQ⟩ := hv
  have hx := B.exec
  have hb := B.bytes
  have hr := B.returns
  have hts := atoms_spec (ws := wsL_drops) B.pre
  have htab := vx_table (x := yL_drops) B (hts _ List.mem_cons_self)
  have hown : s.vm.findClass RL = some m.cls := findClass_of_methodNamed B.named
  have hlocks := B.notSynchronized
  subst hsz
  have hK := hT.1
  have hD := hD0.self (sz := s.heap.size)
  generalize hAe : va_A [(h0, .inr (5, [.ref ai, .ref pu, .ref pa, .ref ga, .ref sc, .ref hi, .ref gr, .int (nI me), .int (nI dp), .int (bI up), .int (nI mi), .int (nI ru), .long wp, .long wl]))] s.heap.size = A at hD hSQ ⊢
  have hA : ∀ q : Nat, s.heap.size ≤ q → A q := fun q h => by rw [← hAe]; exact Or.inr h
  obtain ⟨H, hHe⟩ : ∃ H : Heap, H = s.heap := ⟨_, rfl⟩
  have hS : va_S A s.heap H [] := by rw [hHe]; exact va_S.rf
  rw [← hHe] at hP
  suffices K0 : W p l e (headSpec wsL_drops ({ frames := 8, cells := 1, slots := 6, locals := 126 } : Room)).room s m args below meth c H [] 0 0 (vx_MQ below (Qi9 D A [(h0, .inr (5, [.ref ai, .ref pu, .ref pa, .ref ga, .ref sc, .ref hi, .ref gr, .int (nI me), .int (nI dp), .int (bI up), .int (nI mi), .int (nI ru), .long wp, .long wl]))] (nI 1)) XN args s 1 6 A) (entryFrame m args 7) by rw [hHe] at K0; exact K0
  refine W.eq (g2 := entryFrame m ([.ref h0, .int x0, .int x1, .int x2, .int x3, .ref ou] : List Value).toArray 7) (by rw [hargs]) ?_
  have hl := lv_entry ([.ref h0, .int x0, .int x1, .int x2, .int x3, .ref ou]) (n := 7) (Nat.le_of_ble_eq_true rfl)
  rw [lg_entry_eq]
  generalize (lg_sl ([.ref h0, .int x0, .int x1, .int x2, .int x3, .ref ou]) ++ List.replicate (7 - (lg_sl ([.ref h0, .int x0, .int x1, .int x2, .int x3, .ref ou])).length) Slot.unset).toArray = ls at hl ⊢
  have hl : lv_has ls 7 [(0, .ref h0), (1, .int x0), (2, .int x1), (3, .int x2), (4, .int x3), (5, .ref ou)] := hl
  generalize ([] : List Loc) = locs at hS ⊢
  refine lv_aload hx hb dL_drops_0 (lv_at hl 5 rfl) ?_
  refine lv_iconst (v := nI 0) hx hb dL_drops_2 (by decide) ?_
  refine lv_aload_n hx hb dL_drops_3 rfl (lv_at hl 0 rfl) ?_
  refine lv_iload_n hx hb dL_drops_4 rfl (lv_at hl 1 rfl) ?_
  refine lv_iload_n hx hb dL_drops_5 rfl (lv_at hl 2 rfl) ?_
  refine lv_iload_n hx hb dL_drops_6 rfl (lv_at hl 3 rfl) ?_
  refine lv_iload hx hb dL_drops_7 (lv_at hl 4 rfl) ?_
  refine wk_i (wc := [(h0, .inr (5, [.ref ai, .ref pu, .ref pa, .ref ga, .ref sc, .ref hi, .ref gr, .int (nI me), .int (nI dp), .int (bI up), .int (nI mi), .int (nI ru), .long wp, .long wl]))]) (own := RL) (E := "java/lang/IndexOutOfBoundsException") hown (tableOf []) ⟨0, 14, 17, 13⟩ (tableOf [(0, 14, 21, 15), (0, 14, 25, 17)]) (htab.trans rfl) (fun z hz => by cases hz) (by decide) (by decide) (hts (.classLink RL 13 "java/lang/IndexOutOfBoundsException") (by decide +kernel)) hST.2.1.1.1 hP hD hS hA [0] rfl rfl (vx_runV (As := [.int x0, .int x1, .int x2, .int x3]) (rest := [.int (nI 0), .ref ou]) ⟨hx, hb, hml, hown, hts⟩ (x_X5_drops_0 l hlst D cI cJ cZ h0 ai pu pa ga sc hi gr me dp up mi ru wp wl x0 x1 x2 x3 hbad H.size) (cwV 4 hts gL_drops_X5_drops rfl rfl rfl (by decide +kernel) ⟨Nat.le_of_ble_eq_true rfl, Nat.le_of_ble_eq_true rfl⟩) (pxV (wc := [(h0, .inr (5, [.ref ai, .ref pu, .ref pa, .ref ga, .ref sc, .ref hi, .ref gr, .int (nI me), .int (nI dp), .int (bI up), .int (nI mi), .int (nI ru), .long wp, .long wl]))]) hT hP hD hA [0] rfl rfl 0 rfl rfl hST hSQ hS) rfl rfl hl.1 rfl (lv_room (Nat.le_of_ble_eq_true rfl)) dL_drops_9 ⟨Nat.le_of_ble_eq_true rfl, Nat.le_of_ble_eq_true rfl⟩) (fun q9 H locs hP hD hS => ?_)
  refine lv_astore (lv' := [(6, .ref q9), (0, .ref h0), (1, .int x0), (2, .int x1), (3, .int x2), (4, .int x3), (5, .ref ou)]) hx hb dL_drops_17 hl (by decide) rfl (fun ls hl => ?_)
  refine lv_iconst (v := nI 1) hx hb dL_drops_19 (by decide) ?_
  exact vx_ret (fin_i hx hb hr hlocks hP hD hS rfl dL_drops_20)
set_option maxHeartbeats 4000000 in
set_option maxRecDepth 100000 in
theorem w_L_drops_b1 (l : Launch) (hlst : l.stackTraces = false) (D : va_G) (cI cJ cZ : ClassId) (h0 : Nat) (ai : Nat) (pu : Nat) (pa : Nat) (ga : Nat) (sc : Nat) (hi : Nat) (gr : Nat) (me : Nat) (dp : Nat) (up : Bool) (mi : Nat) (ru : Nat) (wp : Int64) (wl : Int64) (ki : Nat) (x1 : Int32) (x2 : Int32) (x3 : Int32) (ou : Nat) (hki : ki < 20) (hbad : x1.toInt < 0 ∨ 10 ≤ x1.toInt) (sz : Nat) : vx_Met l yL_drops wsL_drops ({ frames := 8, cells := 1, slots := 6, locals := 126 } : Room) (va_Pc [.ref h0, .int (nI ki), .int x1, .int x2, .int x3, .ref ou] (xPre D cI cJ cZ [(h0, .inr (5, [.ref ai, .ref pu, .ref pa, .ref ga, .ref sc, .ref hi, .ref gr, .int (nI me), .int (nI dp), .int (bI up), .int (nI mi), .int (nI ru), .long wp, .long wl]))] sz)) (Qi9 D (va_A [(h0, .inr (5, [.ref ai, .ref pu, .ref pa, .ref ga, .ref sc, .ref hi, .ref gr, .int (nI me), .int (nI dp), .int (bI up), .int (nI mi), .int (nI ru), .long wp, .long wl]))] sz) [(h0, .inr (5, [.ref ai, .ref pu, .ref pa, .ref ga, .ref sc, .ref hi, .ref gr, .int (nI me), .int (nI dp), .int (bI up), .int (nI mi), .int (nI ru), .long wp, .long wl]))] (nI 1)) XN 1 6 (va_A [(h0, .inr (5, [.ref ai, .ref pu, .ref pa, .ref ga, .ref sc, .ref hi, .ref gr, .int (nI me), .int (nI dp), .int (bI up), .int (nI mi), .int (nI ru), .long wp, .long wl]))] sz) := by
  refine vx_ofWH (hh := [(0, 14, 17, 13), (0, 14, 21, 15), (0, 14, 25, 17)]) (cc := cL_drops) (maxL := 7) (ret := (some .int)) (by decide) rfl ?_
  intro p e s m args below meth c s₁ B hml hv
  obtain ⟨hargs, ⟨hsz, hP, hT, hD0⟩, hST, hSQ⟩ := hv
  have hx := B.exec
  have hb := B.bytes
  have hr := B.returns
  have hts := atoms_spec (ws := wsL_drops) B.pre
  have htab := vx_table (x := yL_drops) B (hts _ List.mem_cons_self)
  have hown : s.vm.findClass RL = some m.cls := findClass_of_methodNamed B.named
  have hlocks := B.notSynchronized
  subst hsz
  have hK := hT.1
  have hD := hD0.self (sz := s.heap.size)
  generalize hAe : va_A [(h0, .inr (5, [.ref ai, .ref pu, .ref pa, .ref ga, .ref sc, .ref hi, .ref gr, .int (nI me), .int (nI dp), .int (bI up), .int (nI mi), .int (nI ru), .long wp, .long wl]))] s.heap.size = A at hD hSQ ⊢
  have hA : ∀ q : Nat, s.heap.size ≤ q → A q := fun q h => by rw [← hAe]; exact Or.inr h
  obtain ⟨H, hHe⟩ : ∃ H : Heap, H = s.heap := ⟨_, rfl⟩
  have hS : va_S A s.heap H [] := by rw [hHe]; exact va_S.rf
  rw [← hHe] at hP
  suffices K0 : W p l e (headSpec wsL_drops ({ frames := 8, cells := 1, slots := 6, locals := 126 } : Room)).room s m args below meth c H [] 0 0 (vx_MQ below (Qi9 D A [(h0, .inr (5, [.ref ai, .ref pu, .ref pa, .ref ga, .ref sc, .ref hi, .ref gr, .int (nI me), .int (nI dp), .int (bI up), .int (nI mi), .int (nI ru), .long wp, .long wl]))] (nI 1)) XN args s 1 6 A) (entryFrame m args 7) by rw [hHe] at K0; exact K0
  refine W.eq (g2 := entryFrame m ([.ref h0, .int (nI ki), .int x1, .int x2, .int x3, .ref ou] : List Value).toArray 7) (by rw [hargs]) ?_
  have hl := lv_entry ([.ref h0, .int (nI ki), .int x1, .int x2, .int x3, .ref ou]) (n := 7) (Nat.le_of_ble_eq_true rfl)
  rw [lg_entry_eq]
  generalize (lg_sl ([.ref h0, .int (nI ki), .int x1, .int x2, .int x3, .ref ou]) ++ List.replicate (7 - (lg_sl ([.ref h0, .int (nI ki), .int x1, .int x2, .int x3, .ref ou])).length) Slot.unset).toArray = ls at hl ⊢
  have hl : lv_has ls 7 [(0, .ref h0), (1, .int (nI ki)), (2, .int x1), (3, .int x2), (4, .int x3), (5, .ref ou)] := hl
  generalize ([] : List Loc) = locs at hS ⊢
  refine lv_aload hx hb dL_drops_0 (lv_at hl 5 rfl) ?_
  refine lv_iconst (v := nI 0) hx hb dL_drops_2 (by decide) ?_
  refine lv_aload_n hx hb dL_drops_3 rfl (lv_at hl 0 rfl) ?_
  refine lv_iload_n hx hb dL_drops_4 rfl (lv_at hl 1 rfl) ?_
  refine lv_iload_n hx hb dL_drops_5 rfl (lv_at hl 2 rfl) ?_
  refine lv_iload_n hx hb dL_drops_6 rfl (lv_at hl 3 rfl) ?_
  refine lv_iload hx hb dL_drops_7 (lv_at hl 4 rfl) ?_
  refine wk_i (wc := [(h0, .inr (5, [.ref ai, .ref pu, .ref pa, .ref ga, .ref sc, .ref hi, .ref gr, .int (nI me), .int (nI dp), .int (bI up), .int (nI mi), .int (nI ru), .long wp, .long wl]))]) (own := RL) (E := "java/lang/IndexOutOfBoundsException") hown (tableOf []) ⟨0, 14, 17, 13⟩ (tableOf [(0, 14, 21, 15), (0, 14, 25, 17)]) (htab.trans rfl) (fun z hz => by cases hz) (by decide) (by decide) (hts (.classLink RL 13 "java/lang/IndexOutOfBoundsException") (by decide +kernel)) hST.2.1.1.1 hP hD hS hA [0] rfl rfl (vx_runV (As := [.int (nI ki), .int x1, .int x2, .int x3]) (rest := [.int (nI 0), .ref ou]) ⟨hx, hb, hml, hown, hts⟩ (x_X5_drops_1 l hlst D cI cJ cZ h0 ai pu pa ga sc hi gr me dp up mi ru wp wl ki x1 x2 x3 hki hbad H.size) (cwV 4 hts gL_drops_X5_drops rfl rfl rfl (by decide +kernel) ⟨Nat.le_of_ble_eq_true rfl, Nat.le_of_ble_eq_true rfl⟩) (pxV (wc := [(h0, .inr (5, [.ref ai, .ref pu, .ref pa, .ref ga, .ref sc, .ref hi, .ref gr, .int (nI me), .int (nI dp), .int (bI up), .int (nI mi), .int (nI ru), .long wp, .long wl]))]) hT hP hD hA [0] rfl rfl 0 rfl rfl hST hSQ hS) rfl rfl hl.1 rfl (lv_room (Nat.le_of_ble_eq_true rfl)) dL_drops_9 ⟨Nat.le_of_ble_eq_true rfl, Nat.le_of_ble_eq_true rfl⟩) (fun q9 H locs hP hD hS => ?_)
  refine lv_astore (lv' := [(6, .ref q9), (0, .ref h0), (1, .int (nI ki)), (2, .int x1), (3, .int x2), (4, .int x3), (5, .ref ou)]) hx hb dL_drops_17 hl (by decide) rfl (fun ls hl => ?_)
  refine lv_iconst (v := nI 1) hx hb dL_drops_19 (by decide) ?_
  exact vx_ret (fin_i hx hb hr hlocks hP hD hS rfl dL_drops_20)
set_option maxHeartbeats 4000000 in
set_option maxRecDepth 100000 in
theorem w_L_drops_b2 (l : Launch) (hlst : l.stackTraces = false) (D : va_G) (cI cJ cZ : ClassId) (h0 : Nat) (ai : Nat) (pu : Nat) (pa : Nat) (ga : Nat) (sc : Nat) (hi : Nat) (gr : Nat) (me : Nat) (dp : Nat) (up : Bool) (mi : Nat) (ru : Nat) (wp : Int64) (wl : Int64) (ki : Nat) (la : Nat) (x2 : Int32) (x3 : Int32) (ou : Nat) (hki : ki < 20) (hla : la < 10) (hbad : x2.toInt < 1 ∨ 3 < x2.toInt) (sz : Nat) : vx_Met l yL_drops wsL_drops ({ frames := 8, cells := 1, slots := 6, locals := 128 } : Room) (va_Pc [.ref h0, .int (nI ki), .int (nI la), .int x2, .int x3, .ref ou] (xPre D cI cJ cZ [(h0, .inr (5, [.ref ai, .ref pu, .ref pa, .ref ga, .ref sc, .ref hi, .ref gr, .int (nI me), .int (nI dp), .int (bI up), .int (nI mi), .int (nI ru), .long wp, .long wl]))] sz)) (Qi9 D (va_A [(h0, .inr (5, [.ref ai, .ref pu, .ref pa, .ref ga, .ref sc, .ref hi, .ref gr, .int (nI me), .int (nI dp), .int (bI up), .int (nI mi), .int (nI ru), .long wp, .long wl]))] sz) [(h0, .inr (5, [.ref ai, .ref pu, .ref pa, .ref ga, .ref sc, .ref hi, .ref gr, .int (nI me), .int (nI dp), .int (bI up), .int (nI mi), .int (nI ru), .long wp, .long wl]))] (nI 2)) XN 1 6 (va_A [(h0, .inr (5, [.ref ai, .ref pu, .ref pa, .ref ga, .ref sc, .ref hi, .ref gr, .int (nI me), .int (nI dp), .int (bI up), .int (nI mi), .int (nI ru), .long wp, .long wl]))] sz) := by
  refine vx_ofWH (hh := [(0, 14, 17, 13), (0, 14, 21, 15), (0, 14, 25, 17)]) (cc := cL_drops) (maxL := 7) (ret := (some .int)) (by decide) rfl ?_
  intro p e s m args below meth c s₁ B hml hv
  obtain ⟨hargs, ⟨hsz, hP, hT, hD0⟩, hST, hSQ⟩ := hv
  have hx := B.exec
  have hb := B.bytes
  have hr := B.returns
  have hts := atoms_spec (ws := wsL_drops) B.pre
  have htab := vx_table (x := yL_drops) B (hts _ List.mem_cons_self)
  have hown : s.vm.findClass RL = some m.cls := findClass_of_methodNamed B.named
  have hlocks := B.notSynchronized
  subst hsz
  have hK := hT.1
  have hD := hD0.self (sz := s.heap.size)
  generalize hAe : va_A [(h0, .inr (5, [.ref ai, .ref pu, .ref pa, .ref ga, .ref sc, .ref hi, .ref gr, .int (nI me), .int (nI dp), .int (bI up), .int (nI mi), .int (nI ru), .long wp, .long wl]))] s.heap.size = A at hD hSQ ⊢
  have hA : ∀ q : Nat, s.heap.size ≤ q → A q := fun q h => by rw [← hAe]; exact Or.inr h
  obtain ⟨H, hHe⟩ : ∃ H : Heap, H = s.heap := ⟨_, rfl⟩
  have hS : va_S A s.heap H [] := by rw [hHe]; exact va_S.rf
  rw [← hHe] at hP
  suffices K0 : W p l e (headSpec wsL_drops ({ frames := 8, cells := 1, slots := 6, locals := 128 } : Room)).room s m args below meth c H [] 0 0 (vx_MQ below (Qi9 D A [(h0, .inr (5, [.ref ai, .ref pu, .ref pa, .ref ga, .ref sc, .ref hi, .ref gr, .int (nI me), .int (nI dp), .int (bI up), .int (nI mi), .int (nI ru), .long wp, .long wl]))] (nI 2)) XN args s 1 6 A) (entryFrame m args 7) by rw [hHe] at K0; exact K0
  refine W.eq (g2 := entryFrame m ([.ref h0, .int (nI ki), .int (nI la), .int x2, .int x3, .ref ou] : List Value).toArray 7) (by rw [hargs]) ?_
  have hl := lv_entry ([.ref h0, .int (nI ki), .int (nI la), .int x2, .int x3, .ref ou]) (n := 7) (Nat.le_of_ble_eq_true rfl)
  rw [lg_entry_eq]
  generalize (lg_sl ([.ref h0, .int (nI ki), .int (nI la), .int x2, .int x3, .ref ou]) ++ List.replicate (7 - (lg_sl ([.ref h0, .int (nI ki), .int (nI la), .int x2, .int x3, .ref ou])).length) Slot.unset).toArray = ls at hl ⊢
  have hl : lv_has ls 7 [(0, .ref h0), (1, .int (nI ki)), (2, .int (nI la)), (3, .int x2), (4, .int x3), (5, .ref ou)] := hl
  generalize ([] : List Loc) = locs at hS ⊢
  refine lv_aload hx hb dL_drops_0 (lv_at hl 5 rfl) ?_
  refine lv_iconst (v := nI 0) hx hb dL_drops_2 (by decide) ?_
  refine lv_aload_n hx hb dL_drops_3 rfl (lv_at hl 0 rfl) ?_
  refine lv_iload_n hx hb dL_drops_4 rfl (lv_at hl 1 rfl) ?_
  refine lv_iload_n hx hb dL_drops_5 rfl (lv_at hl 2 rfl) ?_
  refine lv_iload_n hx hb dL_drops_6 rfl (lv_at hl 3 rfl) ?_
  refine lv_iload hx hb dL_drops_7 (lv_at hl 4 rfl) ?_
  refine wk_i (wc := [(h0, .inr (5, [.ref ai, .ref pu, .ref pa, .ref ga, .ref sc, .ref hi, .ref gr, .int (nI me), .int (nI dp), .int (bI up), .int (nI mi), .int (nI ru), .long wp, .long wl]))]) (own := RL) (E := "java/lang/IllegalArgumentException") hown (tableOf [(0, 14, 17, 13)]) ⟨0, 14, 21, 15⟩ (tableOf [(0, 14, 25, 17)]) (htab.trans rfl) (fun z hz => by rw [List.mem_singleton.mp hz]; exact (by exact Or.inr ⟨by decide, "java/lang/IndexOutOfBoundsException", hts (.classLink RL 13 "java/lang/IndexOutOfBoundsException") (by decide +kernel), hST.2.1.2.1⟩)) (by decide) (by decide) (hts (.classLink RL 15 "java/lang/IllegalArgumentException") (by decide +kernel)) hST.2.1.1.2.1 hP hD hS hA [0] rfl rfl (vx_runV (As := [.int (nI ki), .int (nI la), .int x2, .int x3]) (rest := [.int (nI 0), .ref ou]) ⟨hx, hb, hml, hown, hts⟩ (x_X5_drops_2 l hlst D cI cJ cZ h0 ai pu pa ga sc hi gr me dp up mi ru wp wl ki la x2 x3 hki hla hbad H.size) (cwV 4 hts gL_drops_X5_drops rfl rfl rfl (by decide +kernel) ⟨Nat.le_of_ble_eq_true rfl, Nat.le_of_ble_eq_true rfl⟩) (pxV (wc := [(h0, .inr (5, [.ref ai, .ref pu, .ref pa, .ref ga, .ref sc, .ref hi, .ref gr, .int (nI me), .int (nI dp), .int (bI up), .int (nI mi), .int (nI ru), .long wp, .long wl]))]) hT hP hD hA [0] rfl rfl 0 rfl rfl hST hSQ hS) rfl rfl hl.1 rfl (lv_room (Nat.le_of_ble_eq_true rfl)) dL_drops_9 ⟨Nat.le_of_ble_eq_true rfl, Nat.le_of_ble_eq_true rfl⟩) (fun q9 H locs hP hD hS => ?_)
  refine lv_astore (lv' := [(6, .ref q9), (0, .ref h0), (1, .int (nI ki)), (2, .int (nI la)), (3, .int x2), (4, .int x3), (5, .ref ou)]) hx hb dL_drops_21 hl (by decide) rfl (fun ls hl => ?_)
  refine lv_iconst (v := nI 2) hx hb dL_drops_23 (by decide) ?_
  exact vx_ret (fin_i hx hb hr hlocks hP hD hS rfl dL_drops_24)
set_option maxHeartbeats 4000000 in
set_option maxRecDepth 100000 in
theorem w_L_drops_b3 (l : Launch) (hlst : l.stackTraces = false) (D : va_G) (cI cJ cZ : ClassId) (h0 : Nat) (ai : Nat) (pu : Nat) (pa : Nat) (ga : Nat) (sc : Nat) (hi : Nat) (gr : Nat) (me : Nat) (dp : Nat) (up : Bool) (mi : Nat) (ru : Nat) (wp : Int64) (wl : Int64) (ki : Nat) (la : Nat) (si : Nat) (x3 : Int32) (ou : Nat) (hki : ki < 20) (hla : la < 10) (h1si : 1 ≤ si) (h2si : si ≤ 3) (hbad : x3.toInt < 1 ∨ 1000 < x3.toInt) (sz : Nat) : vx_Met l yL_drops wsL_drops ({ frames := 8, cells := 1, slots := 6, locals := 128 } : Room) (va_Pc [.ref h0, .int (nI ki), .int (nI la), .int (nI si), .int x3, .ref ou] (xPre D cI cJ cZ [(h0, .inr (5, [.ref ai, .ref pu, .ref pa, .ref ga, .ref sc, .ref hi, .ref gr, .int (nI me), .int (nI dp), .int (bI up), .int (nI mi), .int (nI ru), .long wp, .long wl]))] sz)) (Qi9 D (va_A [(h0, .inr (5, [.ref ai, .ref pu, .ref pa, .ref ga, .ref sc, .ref hi, .ref gr, .int (nI me), .int (nI dp), .int (bI up), .int (nI mi), .int (nI ru), .long wp, .long wl]))] sz) [(h0, .inr (5, [.ref ai, .ref pu, .ref pa, .ref ga, .ref sc, .ref hi, .ref gr, .int (nI me), .int (nI dp), .int (bI up), .int (nI mi), .int (nI ru), .long wp, .long wl]))] (nI 2)) XN 1 6 (va_A [(h0, .inr (5, [.ref ai, .ref pu, .ref pa, .ref ga, .ref sc, .ref hi, .ref gr, .int (nI me), .int (nI dp), .int (bI up), .int (nI mi), .int (nI ru), .long wp, .long wl]))] sz) := by
  refine vx_ofWH (hh := [(0, 14, 17, 13), (0, 14, 21, 15), (0, 14, 25, 17)]) (cc := cL_drops) (maxL := 7) (ret := (some .int)) (by decide) rfl ?_
  intro p e s m args below meth c s₁ B hml hv
  obtain ⟨hargs, ⟨hsz, hP, hT, hD0⟩, hST, hSQ⟩ := hv
  have hx := B.exec
  have hb := B.bytes
  have hr := B.returns
  have hts := atoms_spec (ws := wsL_drops) B.pre
  have htab := vx_table (x := yL_drops) B (hts _ List.mem_cons_self)
  have hown : s.vm.findClass RL = some m.cls := findClass_of_methodNamed B.named
  have hlocks := B.notSynchronized
  subst hsz
  have hK := hT.1
  have hD := hD0.self (sz := s.heap.size)
  generalize hAe : va_A [(h0, .inr (5, [.ref ai, .ref pu, .ref pa, .ref ga, .ref sc, .ref hi, .ref gr, .int (nI me), .int (nI dp), .int (bI up), .int (nI mi), .int (nI ru), .long wp, .long wl]))] s.heap.size = A at hD hSQ ⊢
  have hA : ∀ q : Nat, s.heap.size ≤ q → A q := fun q h => by rw [← hAe]; exact Or.inr h
  obtain ⟨H, hHe⟩ : ∃ H : Heap, H = s.heap := ⟨_, rfl⟩
  have hS : va_S A s.heap H [] := by rw [hHe]; exact va_S.rf
  rw [← hHe] at hP
  suffices K0 : W p l e (headSpec wsL_drops ({ frames := 8, cells := 1, slots := 6, locals := 128 } : Room)).room s m args below meth c H [] 0 0 (vx_MQ below (Qi9 D A [(h0, .inr (5, [.ref ai, .ref pu, .ref pa, .ref ga, .ref sc, .ref hi, .ref gr, .int (nI me), .int (nI dp), .int (bI up), .int (nI mi), .int (nI ru), .long wp, .long wl]))] (nI 2)) XN args s 1 6 A) (entryFrame m args 7) by rw [hHe] at K0; exact K0
  refine W.eq (g2 := entryFrame m ([.ref h0, .int (nI ki), .int (nI la), .int (nI si), .int x3, .ref ou] : List Value).toArray 7) (by rw [hargs]) ?_
  have hl := lv_entry ([.ref h0, .int (nI ki), .int (nI la), .int (nI si), .int x3, .ref ou]) (n := 7) (Nat.le_of_ble_eq_true rfl)
  rw [lg_entry_eq]
  generalize (lg_sl ([.ref h0, .int (nI ki), .int (nI la), .int (nI si), .int x3, .ref ou]) ++ List.replicate (7 - (lg_sl ([.ref h0, .int (nI ki), .int (nI la), .int (nI si), .int x3, .ref ou])).length) Slot.unset).toArray = ls at hl ⊢
  have hl : lv_has ls 7 [(0, .ref h0), (1, .int (nI ki)), (2, .int (nI la)), (3, .int (nI si)), (4, .int x3), (5, .ref ou)] := hl
  generalize ([] : List Loc) = locs at hS ⊢
  refine lv_aload hx hb dL_drops_0 (lv_at hl 5 rfl) ?_
  refine lv_iconst (v := nI 0) hx hb dL_drops_2 (by decide) ?_
  refine lv_aload_n hx hb dL_drops_3 rfl (lv_at hl 0 rfl) ?_
  refine lv_iload_n hx hb dL_drops_4 rfl (lv_at hl 1 rfl) ?_
  refine lv_iload_n hx hb dL_drops_5 rfl (lv_at hl 2 rfl) ?_
  refine lv_iload_n hx hb dL_drops_6 rfl (lv_at hl 3 rfl) ?_
  refine lv_iload hx hb dL_drops_7 (lv_at hl 4 rfl) ?_
  refine wk_i (wc := [(h0, .inr (5, [.ref ai, .ref pu, .ref pa, .ref ga, .ref sc, .ref hi, .ref gr, .int (nI me), .int (nI dp), .int (bI up), .int (nI mi), .int (nI ru), .long wp, .long wl]))]) (own := RL) (E := "java/lang/IllegalArgumentException") hown (tableOf [(0, 14, 17, 13)]) ⟨0, 14, 21, 15⟩ (tableOf [(0, 14, 25, 17)]) (htab.trans rfl) (fun z hz => by rw [List.mem_singleton.mp hz]; exact (by exact Or.inr ⟨by decide, "java/lang/IndexOutOfBoundsException", hts (.classLink RL 13 "java/lang/IndexOutOfBoundsException") (by decide +kernel), hST.2.1.2.1⟩)) (by decide) (by decide) (hts (.classLink RL 15 "java/lang/IllegalArgumentException") (by decide +kernel)) hST.2.1.1.2.1 hP hD hS hA [0] rfl rfl (vx_runV (As := [.int (nI ki), .int (nI la), .int (nI si), .int x3]) (rest := [.int (nI 0), .ref ou]) ⟨hx, hb, hml, hown, hts⟩ (x_X5_drops_3 l hlst D cI cJ cZ h0 ai pu pa ga sc hi gr me dp up mi ru wp wl ki la si x3 hki hla h1si h2si hbad H.size) (cwV 4 hts gL_drops_X5_drops rfl rfl rfl (by decide +kernel) ⟨Nat.le_of_ble_eq_true rfl, Nat.le_of_ble_eq_true rfl⟩) (pxV (wc := [(h0, .inr (5, [.ref ai, .ref pu, .ref pa, .ref ga, .ref sc, .ref hi, .ref gr, .int (nI me), .int (nI dp), .int (bI up), .int (nI mi), .int (nI ru), .long wp, .long wl]))]) hT hP hD hA [0] rfl rfl 0 rfl rfl hST hSQ hS) rfl rfl hl.1 rfl (lv_room (Nat.le_of_ble_eq_true rfl)) dL_drops_9 ⟨Nat.le_of_ble_eq_true rfl, Nat.le_of_ble_eq_true rfl⟩) (fun q9 H locs hP hD hS => ?_)
  refine lv_astore (lv' := [(6, .ref q9), (0, .ref h0), (1, .int (nI ki)), (2, .int (nI la)), (3, .int (nI si)), (4, .int x3), (5, .ref ou)]) hx hb dL_drops_21 hl (by decide) rfl (fun ls hl => ?_)
  refine lv_iconst (v := nI 2) hx hb dL_drops_23 (by decide) ?_
  exact vx_ret (fin_i hx hb hr hlocks hP hD hS rfl dL_drops_24)
set_option maxHeartbeats 4000000 in
set_option maxRecDepth 100000 in
theorem w_L_drops_b4 (l : Launch) (hlst : l.stackTraces = false) (D : va_G) (cI cJ cZ : ClassId) (h0 : Nat) (ai : Nat) (pu : Nat) (pa : Nat) (ga : Nat) (sc : Nat) (hi : Nat) (gr : Nat) (me : Nat) (dp : Nat) (up : Bool) (mi : Nat) (ru : Nat) (wp : Int64) (wl : Int64) (u1 : Nat) (u2 : Nat) (u3 : Nat) (u4 : Nat) (u5 : Nat) (PK : Nat → Nat) (PL : Nat → Nat) (PS : Nat → Nat) (PN : Nat → Nat) (PM : Nat → Nat) (pn : Nat) (ki : Nat) (la : Nat) (si : Nat) (mn : Nat) (ou : Nat) (hki : ki < 20) (hla : la < 10) (h1si : 1 ≤ si) (h2si : si ≤ 3) (h1mn : 1 ≤ mn) (h2mn : mn ≤ 1000) (hpn : 100 ≤ pn) (hpb : pn ≤ 100) (sz : Nat) : vx_Met l yL_drops wsL_drops ({ frames := 7, cells := 1, slots := 6, locals := 106 } : Room) (va_Pc [.ref h0, .int (nI ki), .int (nI la), .int (nI si), .int (nI mn), .ref ou] (xPre D cI cJ cZ [(h0, .inr (5, [.ref ai, .ref pu, .ref pa, .ref ga, .ref sc, .ref hi, .ref gr, .int (nI me), .int (nI dp), .int (bI up), .int (nI mi), .int (nI ru), .long wp, .long wl])), (pu, .inr (3, [.ref u1, .ref u2, .ref u3, .ref u4, .ref u5, .int (nI pn)])), (u1, .inl (cI, 100, .inl (nA PK))), (u2, .inl (cI, 100, .inl (nA PL))), (u3, .inl (cI, 100, .inl (nA PS))), (u4, .inl (cI, 100, .inl (nA PN))), (u5, .inl (cI, 100, .inl (nA PM)))] sz)) (Qi9 D (va_A [(h0, .inr (5, [.ref ai, .ref pu, .ref pa, .ref ga, .ref sc, .ref hi, .ref gr, .int (nI me), .int (nI dp), .int (bI up), .int (nI mi), .int (nI ru), .long wp, .long wl])), (pu, .inr (3, [.ref u1, .ref u2, .ref u3, .ref u4, .ref u5, .int (nI pn)])), (u1, .inl (cI, 100, .inl (nA PK))), (u2, .inl (cI, 100, .inl (nA PL))), (u3, .inl (cI, 100, .inl (nA PS))), (u4, .inl (cI, 100, .inl (nA PN))), (u5, .inl (cI, 100, .inl (nA PM)))] sz) [(h0, .inr (5, [.ref ai, .ref pu, .ref pa, .ref ga, .ref sc, .ref hi, .ref gr, .int (nI me), .int (nI dp), .int (bI up), .int (nI mi), .int (nI ru), .long wp, .long wl])), (pu, .inr (3, [.ref u1, .ref u2, .ref u3, .ref u4, .ref u5, .int (nI pn)])), (u1, .inl (cI, 100, .inl (nA PK))), (u2, .inl (cI, 100, .inl (nA PL))), (u3, .inl (cI, 100, .inl (nA PS))), (u4, .inl (cI, 100, .inl (nA PN))), (u5, .inl (cI, 100, .inl (nA PM)))] (nI 3)) XN 1 6 (va_A [(h0, .inr (5, [.ref ai, .ref pu, .ref pa, .ref ga, .ref sc, .ref hi, .ref gr, .int (nI me), .int (nI dp), .int (bI up), .int (nI mi), .int (nI ru), .long wp, .long wl])), (pu, .inr (3, [.ref u1, .ref u2, .ref u3, .ref u4, .ref u5, .int (nI pn)])), (u1, .inl (cI, 100, .inl (nA PK))), (u2, .inl (cI, 100, .inl (nA PL))), (u3, .inl (cI, 100, .inl (nA PS))), (u4, .inl (cI, 100, .inl (nA PN))), (u5, .inl (cI, 100, .inl (nA PM)))] sz) := by
  refine vx_ofWH (hh := [(0, 14, 17, 13), (0, 14, 21, 15), (0, 14, 25, 17)]) (cc := cL_drops) (maxL := 7) (ret := (some .int)) (by decide) rfl ?_
  intro p e s m args below meth c s₁ B hml hv
  obtain ⟨hargs, ⟨hsz, hP, hT, hD0⟩, hST, hSQ⟩ := hv
  have hx := B.exec
  have hb := B.bytes
  have hr := B.returns
  have hts := atoms_spec (ws := wsL_drops) B.pre
  have htab := vx_table (x := yL_drops) B (hts _ List.mem_cons_self)
  have hown : s.vm.findClass RL = some m.cls := findClass_of_methodNamed B.named
  have hlocks := B.notSynchronized
  subst hsz
  have hK := hT.1
  have hD := hD0.self (sz := s.heap.size)
  generalize hAe : va_A [(h0, .inr (5, [.ref ai, .ref pu, .ref pa, .ref ga, .ref sc, .ref hi, .ref gr, .int (nI me), .int (nI dp), .int (bI up), .int (nI mi), .int (nI ru), .long wp, .long wl])), (pu, .inr (3, [.ref u1, .ref u2, .ref u3, .ref u4, .ref u5, .int (nI pn)])), (u1, .inl (cI, 100, .inl (nA PK))), (u2, .inl (cI, 100, .inl (nA PL))), (u3, .inl (cI, 100, .inl (nA PS))), (u4, .inl (cI, 100, .inl (nA PN))), (u5, .inl (cI, 100, .inl (nA PM)))] s.heap.size = A at hD hSQ ⊢
  have hA : ∀ q : Nat, s.heap.size ≤ q → A q := fun q h => by rw [← hAe]; exact Or.inr h
  obtain ⟨H, hHe⟩ : ∃ H : Heap, H = s.heap := ⟨_, rfl⟩
  have hS : va_S A s.heap H [] := by rw [hHe]; exact va_S.rf
  rw [← hHe] at hP
  suffices K0 : W p l e (headSpec wsL_drops ({ frames := 7, cells := 1, slots := 6, locals := 106 } : Room)).room s m args below meth c H [] 0 0 (vx_MQ below (Qi9 D A [(h0, .inr (5, [.ref ai, .ref pu, .ref pa, .ref ga, .ref sc, .ref hi, .ref gr, .int (nI me), .int (nI dp), .int (bI up), .int (nI mi), .int (nI ru), .long wp, .long wl])), (pu, .inr (3, [.ref u1, .ref u2, .ref u3, .ref u4, .ref u5, .int (nI pn)])), (u1, .inl (cI, 100, .inl (nA PK))), (u2, .inl (cI, 100, .inl (nA PL))), (u3, .inl (cI, 100, .inl (nA PS))), (u4, .inl (cI, 100, .inl (nA PN))), (u5, .inl (cI, 100, .inl (nA PM)))] (nI 3)) XN args s 1 6 A) (entryFrame m args 7) by rw [hHe] at K0; exact K0
  refine W.eq (g2 := entryFrame m ([.ref h0, .int (nI ki), .int (nI la), .int (nI si), .int (nI mn), .ref ou] : List Value).toArray 7) (by rw [hargs]) ?_
  have hl := lv_entry ([.ref h0, .int (nI ki), .int (nI la), .int (nI si), .int (nI mn), .ref ou]) (n := 7) (Nat.le_of_ble_eq_true rfl)
  rw [lg_entry_eq]
  generalize (lg_sl ([.ref h0, .int (nI ki), .int (nI la), .int (nI si), .int (nI mn), .ref ou]) ++ List.replicate (7 - (lg_sl ([.ref h0, .int (nI ki), .int (nI la), .int (nI si), .int (nI mn), .ref ou])).length) Slot.unset).toArray = ls at hl ⊢
  have hl : lv_has ls 7 [(0, .ref h0), (1, .int (nI ki)), (2, .int (nI la)), (3, .int (nI si)), (4, .int (nI mn)), (5, .ref ou)] := hl
  generalize ([] : List Loc) = locs at hS ⊢
  refine lv_aload hx hb dL_drops_0 (lv_at hl 5 rfl) ?_
  refine lv_iconst (v := nI 0) hx hb dL_drops_2 (by decide) ?_
  refine lv_aload_n hx hb dL_drops_3 rfl (lv_at hl 0 rfl) ?_
  refine lv_iload_n hx hb dL_drops_4 rfl (lv_at hl 1 rfl) ?_
  refine lv_iload_n hx hb dL_drops_5 rfl (lv_at hl 2 rfl) ?_
  refine lv_iload_n hx hb dL_drops_6 rfl (lv_at hl 3 rfl) ?_
  refine lv_iload hx hb dL_drops_7 (lv_at hl 4 rfl) ?_
  refine wk_i (wc := [(h0, .inr (5, [.ref ai, .ref pu, .ref pa, .ref ga, .ref sc, .ref hi, .ref gr, .int (nI me), .int (nI dp), .int (bI up), .int (nI mi), .int (nI ru), .long wp, .long wl])), (pu, .inr (3, [.ref u1, .ref u2, .ref u3, .ref u4, .ref u5, .int (nI pn)])), (u1, .inl (cI, 100, .inl (nA PK))), (u2, .inl (cI, 100, .inl (nA PL))), (u3, .inl (cI, 100, .inl (nA PS))), (u4, .inl (cI, 100, .inl (nA PN))), (u5, .inl (cI, 100, .inl (nA PM)))]) (own := RL) (E := "java/lang/IllegalStateException") hown (tableOf [(0, 14, 17, 13), (0, 14, 21, 15)]) ⟨0, 14, 25, 17⟩ (tableOf []) (htab.trans rfl) (fun z hz => by rcases List.mem_cons.mp hz with h9 | h9; (rw [h9]; exact (by exact Or.inr ⟨by decide, "java/lang/IndexOutOfBoundsException", hts (.classLink RL 13 "java/lang/IndexOutOfBoundsException") (by decide +kernel), hST.2.1.2.2.1⟩)); (rw [List.mem_singleton.mp h9]; exact (by exact Or.inr ⟨by decide, "java/lang/IllegalArgumentException", hts (.classLink RL 15 "java/lang/IllegalArgumentException") (by decide +kernel), hST.2.1.2.2.2⟩))) (by decide) (by decide) (hts (.classLink RL 17 "java/lang/IllegalStateException") (by decide +kernel)) hST.2.1.1.2.2 hP hD hS hA [0, 1, 2, 3, 4, 5, 6] rfl rfl (vx_runV (As := [.int (nI ki), .int (nI la), .int (nI si), .int (nI mn)]) (rest := [.int (nI 0), .ref ou]) ⟨hx, hb, hml, hown, hts⟩ (x_X5_drops_4 l hlst D cI cJ cZ h0 ai pu pa ga sc hi gr me dp up mi ru wp wl u1 u2 u3 u4 u5 PK PL PS PN PM pn ki la si mn hki hla h1si h2si h1mn h2mn hpn hpb H.size) (cwV 4 hts gL_drops_X5_drops rfl rfl rfl (by decide +kernel) ⟨Nat.le_of_ble_eq_true rfl, Nat.le_of_ble_eq_true rfl⟩) (pxV (wc := [(h0, .inr (5, [.ref ai, .ref pu, .ref pa, .ref ga, .ref sc, .ref hi, .ref gr, .int (nI me), .int (nI dp), .int (bI up), .int (nI mi), .int (nI ru), .long wp, .long wl])), (pu, .inr (3, [.ref u1, .ref u2, .ref u3, .ref u4, .ref u5, .int (nI pn)])), (u1, .inl (cI, 100, .inl (nA PK))), (u2, .inl (cI, 100, .inl (nA PL))), (u3, .inl (cI, 100, .inl (nA PS))), (u4, .inl (cI, 100, .inl (nA PN))), (u5, .inl (cI, 100, .inl (nA PM)))]) hT hP hD hA [0, 1, 2, 3, 4, 5, 6] rfl rfl 0 rfl rfl hST hSQ hS) rfl rfl hl.1 rfl (lv_room (Nat.le_of_ble_eq_true rfl)) dL_drops_9 ⟨Nat.le_of_ble_eq_true rfl, Nat.le_of_ble_eq_true rfl⟩) (fun q9 H locs hP hD hS => ?_)
  refine lv_astore (lv' := [(6, .ref q9), (0, .ref h0), (1, .int (nI ki)), (2, .int (nI la)), (3, .int (nI si)), (4, .int (nI mn)), (5, .ref ou)]) hx hb dL_drops_25 hl (by decide) rfl (fun ls hl => ?_)
  refine lv_iconst (v := nI 3) hx hb dL_drops_27 (by decide) ?_
  exact vx_ret (fin_i hx hb hr hlocks hP hD hS rfl dL_drops_28)
set_option maxHeartbeats 4000000 in
set_option maxRecDepth 100000 in
theorem w_L_melt_b0 (l : Launch) (hlst : l.stackTraces = false) (D : va_G) (cI cJ cZ : ClassId) (h0 : Nat) (ai : Nat) (pu : Nat) (pa : Nat) (ga : Nat) (sc : Nat) (hi : Nat) (gr : Nat) (me : Nat) (dp : Nat) (up : Bool) (mi : Nat) (ru : Nat) (wp : Int64) (wl : Int64) (x0 : Int32) (ou : Nat) (hbad : x0.toInt < 0 ∨ 10 ≤ x0.toInt) (sz : Nat) : vx_Met l yL_melt wsL_melt ({ frames := 8, cells := 1, slots := 6, locals := 124 } : Room) (va_Pc [.ref h0, .int x0, .ref ou] (xPre D cI cJ cZ [(h0, .inr (5, [.ref ai, .ref pu, .ref pa, .ref ga, .ref sc, .ref hi, .ref gr, .int (nI me), .int (nI dp), .int (bI up), .int (nI mi), .int (nI ru), .long wp, .long wl]))] sz)) (Qi9 D (va_A [(h0, .inr (5, [.ref ai, .ref pu, .ref pa, .ref ga, .ref sc, .ref hi, .ref gr, .int (nI me), .int (nI dp), .int (bI up), .int (nI mi), .int (nI ru), .long wp, .long wl]))] sz) [(h0, .inr (5, [.ref ai, .ref pu, .ref pa, .ref ga, .ref sc, .ref hi, .ref gr, .int (nI me), .int (nI dp), .int (bI up), .int (nI mi), .int (nI ru), .long wp, .long wl]))] (nI 1)) XN 1 6 (va_A [(h0, .inr (5, [.ref ai, .ref pu, .ref pa, .ref ga, .ref sc, .ref hi, .ref gr, .int (nI me), .int (nI dp), .int (bI up), .int (nI mi), .int (nI ru), .long wp, .long wl]))] sz) := by
  refine vx_ofWH (hh := [(0, 9, 12, 13)]) (cc := cL_melt) (maxL := 4) (ret := (some .int)) (by decide) rfl ?_
  intro p e s m args below meth c s₁ B hml hv
  obtain ⟨hargs, ⟨hsz, hP, hT, hD0⟩, hST, hSQ⟩ := hv
  have hx := B.exec
  have hb := B.bytes
  have hr := B.returns
  have hts := atoms_spec (ws := wsL_melt) B.pre
  have htab := vx_table (x := yL_melt) B (hts _ List.mem_cons_self)
  have hown : s.vm.findClass RL = some m.cls := findClass_of_methodNamed B.named
  have hlocks := B.notSynchronized
  subst hsz
  have hK := hT.1
  have hD := hD0.self (sz := s.heap.size)
  generalize hAe : va_A [(h0, .inr (5, [.ref ai, .ref pu, .ref pa, .ref ga, .ref sc, .ref hi, .ref gr, .int (nI me), .int (nI dp), .int (bI up), .int (nI mi), .int (nI ru), .long wp, .long wl]))] s.heap.size = A at hD hSQ ⊢
  have hA : ∀ q : Nat, s.heap.size ≤ q → A q := fun q h => by rw [← hAe]; exact Or.inr h
  obtain ⟨H, hHe⟩ : ∃ H : Heap, H = s.heap := ⟨_, rfl⟩
  have hS : va_S A s.heap H [] := by rw [hHe]; exact va_S.rf
  rw [← hHe] at hP
  suffices K0 : W p l e (headSpec wsL_melt ({ frames := 8, cells := 1, slots := 6, locals := 124 } : Room)).room s m args below meth c H [] 0 0 (vx_MQ below (Qi9 D A [(h0, .inr (5, [.ref ai, .ref pu, .ref pa, .ref ga, .ref sc, .ref hi, .ref gr, .int (nI me), .int (nI dp), .int (bI up), .int (nI mi), .int (nI ru), .long wp, .long wl]))] (nI 1)) XN args s 1 6 A) (entryFrame m args 4) by rw [hHe] at K0; exact K0
  refine W.eq (g2 := entryFrame m ([.ref h0, .int x0, .ref ou] : List Value).toArray 4) (by rw [hargs]) ?_
  have hl := lv_entry ([.ref h0, .int x0, .ref ou]) (n := 4) (Nat.le_of_ble_eq_true rfl)
  rw [lg_entry_eq]
  generalize (lg_sl ([.ref h0, .int x0, .ref ou]) ++ List.replicate (4 - (lg_sl ([.ref h0, .int x0, .ref ou])).length) Slot.unset).toArray = ls at hl ⊢
  have hl : lv_has ls 4 [(0, .ref h0), (1, .int x0), (2, .ref ou)] := hl
  generalize ([] : List Loc) = locs at hS ⊢
  refine lv_aload_n hx hb dL_melt_0 rfl (lv_at hl 2 rfl) ?_
  refine lv_iconst (v := nI 0) hx hb dL_melt_1 (by decide) ?_
  refine lv_aload_n hx hb dL_melt_2 rfl (lv_at hl 0 rfl) ?_
  refine lv_iload_n hx hb dL_melt_3 rfl (lv_at hl 1 rfl) ?_
  refine wk_i (wc := [(h0, .inr (5, [.ref ai, .ref pu, .ref pa, .ref ga, .ref sc, .ref hi, .ref gr, .int (nI me), .int (nI dp), .int (bI up), .int (nI mi), .int (nI ru), .long wp, .long wl]))]) (own := RL) (E := "java/lang/IndexOutOfBoundsException") hown (tableOf []) ⟨0, 9, 12, 13⟩ (tableOf []) (htab.trans rfl) (fun z hz => by cases hz) (by decide) (by decide) (hts (.classLink RL 13 "java/lang/IndexOutOfBoundsException") (by decide +kernel)) hST.2.1.1.1 hP hD hS hA [0] rfl rfl (vx_runV (As := [.int x0]) (rest := [.int (nI 0), .ref ou]) ⟨hx, hb, hml, hown, hts⟩ (x_X5_melt_0 l hlst D cI cJ cZ h0 ai pu pa ga sc hi gr me dp up mi ru wp wl x0 hbad H.size) (cwV 1 hts gL_melt_X5_melt rfl rfl rfl (by decide +kernel) ⟨Nat.le_of_ble_eq_true rfl, Nat.le_of_ble_eq_true rfl⟩) (pxV (wc := [(h0, .inr (5, [.ref ai, .ref pu, .ref pa, .ref ga, .ref sc, .ref hi, .ref gr, .int (nI me), .int (nI dp), .int (bI up), .int (nI mi), .int (nI ru), .long wp, .long wl]))]) hT hP hD hA [0] rfl rfl 0 rfl rfl hST hSQ hS) rfl rfl hl.1 rfl (lv_room (Nat.le_of_ble_eq_true rfl)) dL_melt_4 ⟨Nat.le_of_ble_eq_true rfl, Nat.le_of_ble_eq_true rfl⟩) (fun q9 H locs hP hD hS => ?_)
  refine lv_astore_n (lv' := [(3, .ref q9), (0, .ref h0), (1, .int x0), (2, .ref ou)]) hx hb dL_melt_12 rfl hl (by decide) rfl (fun ls hl => ?_)
  refine lv_iconst (v := nI 1) hx hb dL_melt_13 (by decide) ?_
  exact vx_ret (fin_i hx hb hr hlocks hP hD hS rfl dL_melt_14)
set_option maxHeartbeats 4000000 in
set_option maxRecDepth 100000 in
theorem w_L_hill_b0 (l : Launch) (hlst : l.stackTraces = false) (D : va_G) (cI cJ cZ : ClassId) (h0 : Nat) (ai : Nat) (pu : Nat) (pa : Nat) (ga : Nat) (sc : Nat) (hi : Nat) (gr : Nat) (me : Nat) (dp : Nat) (up : Bool) (mi : Nat) (ru : Nat) (wp : Int64) (wl : Int64) (x0 : Int32) (x1 : Int32) (ou : Nat) (hbad : x0.toInt < 0 ∨ 20 ≤ x0.toInt) (sz : Nat) : vx_Met l yL_hill wsL_hill ({ frames := 8, cells := 1, slots := 6, locals := 125 } : Room) (va_Pc [.ref h0, .int x0, .int x1, .ref ou] (xPre D cI cJ cZ [(h0, .inr (5, [.ref ai, .ref pu, .ref pa, .ref ga, .ref sc, .ref hi, .ref gr, .int (nI me), .int (nI dp), .int (bI up), .int (nI mi), .int (nI ru), .long wp, .long wl]))] sz)) (Qi9 D (va_A [(h0, .inr (5, [.ref ai, .ref pu, .ref pa, .ref ga, .ref sc, .ref hi, .ref gr, .int (nI me), .int (nI dp), .int (bI up), .int (nI mi), .int (nI ru), .long wp, .long wl]))] sz) [(h0, .inr (5, [.ref ai, .ref pu, .ref pa, .ref ga, .ref sc, .ref hi, .ref gr, .int (nI me), .int (nI dp), .int (bI up), .int (nI mi), .int (nI ru), .long wp, .long wl]))] (nI 1)) XN 1 6 (va_A [(h0, .inr (5, [.ref ai, .ref pu, .ref pa, .ref ga, .ref sc, .ref hi, .ref gr, .int (nI me), .int (nI dp), .int (bI up), .int (nI mi), .int (nI ru), .long wp, .long wl]))] sz) := by
  refine vx_ofWH (hh := [(0, 10, 13, 13), (0, 10, 17, 15)]) (cc := cL_hill) (maxL := 5) (ret := (some .int)) (by decide) rfl ?_
  intro p e s m args below meth c s₁ B hml hv
  obtain ⟨hargs, ⟨hsz, hP, hT, hD0⟩, hST, hSQ⟩ := hv
  have hx := B.exec
  have hb := B.bytes
  have hr := B.returns
  have hts := atoms_spec (ws := wsL_hill) B.pre
  have htab := vx_table (x := yL_hill) B (hts _ List.mem_cons_self)
  have hown : s.vm.findClass RL = some m.cls := findClass_of_methodNamed B.named
  have hlocks := B.notSynchronized
  subst hsz
  have hK := hT.1
  have hD := hD0.self (sz := s.heap.size)
  generalize hAe : va_A [(h0, .inr (5, [.ref ai, .ref pu, .ref pa, .ref ga, .ref sc, .ref hi, .ref gr, .int (nI me), .int (nI dp), .int (bI up), .int (nI mi), .int (nI ru), .long wp, .long wl]))] s.heap.size = A at hD hSQ ⊢
  have hA : ∀ q : Nat, s.heap.size ≤ q → A q := fun q h => by rw [← hAe]; exact Or.inr h
  obtain ⟨H, hHe⟩ : ∃ H : Heap, H = s.heap := ⟨_, rfl⟩
  have hS : va_S A s.heap H [] := by rw [hHe]; exact va_S.rf
  rw [← hHe] at hP
  suffices K0 : W p l e (headSpec wsL_hill ({ frames := 8, cells := 1, slots := 6, locals := 125 } : Room)).room s m args below meth c H [] 0 0 (vx_MQ below (Qi9 D A [(h0, .inr (5, [.ref ai, .ref pu, .ref pa, .ref ga, .ref sc, .ref hi, .ref gr, .int (nI me), .int (nI dp), .int (bI up), .int (nI mi), .int (nI ru), .long wp, .long wl]))] (nI 1)) XN args s 1 6 A) (entryFrame m args 5) by rw [hHe] at K0; exact K0
  refine W.eq (g2 := entryFrame m ([.ref h0, .int x0, .int x1, .ref ou] : List Value).toArray 5) (by rw [hargs]) ?_
  have hl := lv_entry ([.ref h0, .int x0, .int x1, .ref ou]) (n := 5) (Nat.le_of_ble_eq_true rfl)
  rw [lg_entry_eq]
  generalize (lg_sl ([.ref h0, .int x0, .int x1, .ref ou]) ++ List.replicate (5 - (lg_sl ([.ref h0, .int x0, .int x1, .ref ou])).length) Slot.unset).toArray = ls at hl ⊢
  have hl : lv_has ls 5 [(0, .ref h0), (1, .int x0), (2, .int x1), (3, .ref ou)] := hl
  generalize ([] : List Loc) = locs at hS ⊢
  refine lv_aload_n hx hb dL_hill_0 rfl (lv_at hl 3 rfl) ?_
  refine lv_iconst (v := nI 0) hx hb dL_hill_1 (by decide) ?_
  refine lv_aload_n hx hb dL_hill_2 rfl (lv_at hl 0 rfl) ?_
  refine lv_iload_n hx hb dL_hill_3 rfl (lv_at hl 1 rfl) ?_
  refine lv_iload_n hx hb dL_hill_4 rfl (lv_at hl 2 rfl) ?_
  refine wk_i (wc := [(h0, .inr (5, [.ref ai, .ref pu, .ref pa, .ref ga, .ref sc, .ref hi, .ref gr, .int (nI me), .int (nI dp), .int (bI up), .int (nI mi), .int (nI ru), .long wp, .long wl]))]) (own := RL) (E := "java/lang/IndexOutOfBoundsException") hown (tableOf []) ⟨0, 10, 13, 13⟩ (tableOf [(0, 10, 17, 15)]) (htab.trans rfl) (fun z hz => by cases hz) (by decide) (by decide) (hts (.classLink RL 13 "java/lang/IndexOutOfBoundsException") (by decide +kernel)) hST.2.1.1.1 hP hD hS hA [0] rfl rfl (vx_runV (As := [.int x0, .int x1]) (rest := [.int (nI 0), .ref ou]) ⟨hx, hb, hml, hown, hts⟩ (x_X5_hill_0 l hlst D cI cJ cZ h0 ai pu pa ga sc hi gr me dp up mi ru wp wl x0 x1 hbad H.size) (cwV 2 hts gL_hill_X5_hill rfl rfl rfl (by decide +kernel) ⟨Nat.le_of_ble_eq_true rfl, Nat.le_of_ble_eq_true rfl⟩) (pxV (wc := [(h0, .inr (5, [.ref ai, .ref pu, .ref pa, .ref ga, .ref sc, .ref hi, .ref gr, .int (nI me), .int (nI dp), .int (bI up), .int (nI mi), .int (nI ru), .long wp, .long wl]))]) hT hP hD hA [0] rfl rfl 0 rfl rfl hST hSQ hS) rfl rfl hl.1 rfl (lv_room (Nat.le_of_ble_eq_true rfl)) dL_hill_5 ⟨Nat.le_of_ble_eq_true rfl, Nat.le_of_ble_eq_true rfl⟩) (fun q9 H locs hP hD hS => ?_)
  refine lv_astore (lv' := [(4, .ref q9), (0, .ref h0), (1, .int x0), (2, .int x1), (3, .ref ou)]) hx hb dL_hill_13 hl (by decide) rfl (fun ls hl => ?_)
  refine lv_iconst (v := nI 1) hx hb dL_hill_15 (by decide) ?_
  exact vx_ret (fin_i hx hb hr hlocks hP hD hS rfl dL_hill_16)
set_option maxHeartbeats 4000000 in
set_option maxRecDepth 100000 in
theorem w_L_hill_b1 (l : Launch) (hlst : l.stackTraces = false) (D : va_G) (cI cJ cZ : ClassId) (h0 : Nat) (ai : Nat) (pu : Nat) (pa : Nat) (ga : Nat) (sc : Nat) (hi : Nat) (gr : Nat) (me : Nat) (dp : Nat) (up : Bool) (mi : Nat) (ru : Nat) (wp : Int64) (wl : Int64) (ki : Nat) (x1 : Int32) (ou : Nat) (hki : ki < 20) (hbad : x1.toInt < 0 ∨ 9 < x1.toInt) (sz : Nat) : vx_Met l yL_hill wsL_hill ({ frames := 8, cells := 1, slots := 6, locals := 127 } : Room) (va_Pc [.ref h0, .int (nI ki), .int x1, .ref ou] (xPre D cI cJ cZ [(h0, .inr (5, [.ref ai, .ref pu, .ref pa, .ref ga, .ref sc, .ref hi, .ref gr, .int (nI me), .int (nI dp), .int (bI up), .int (nI mi), .int (nI ru), .long wp, .long wl]))] sz)) (Qi9 D (va_A [(h0, .inr (5, [.ref ai, .ref pu, .ref pa, .ref ga, .ref sc, .ref hi, .ref gr, .int (nI me), .int (nI dp), .int (bI up), .int (nI mi), .int (nI ru), .long wp, .long wl]))] sz) [(h0, .inr (5, [.ref ai, .ref pu, .ref pa, .ref ga, .ref sc, .ref hi, .ref gr, .int (nI me), .int (nI dp), .int (bI up), .int (nI mi), .int (nI ru), .long wp, .long wl]))] (nI 2)) XN 1 6 (va_A [(h0, .inr (5, [.ref ai, .ref pu, .ref pa, .ref ga, .ref sc, .ref hi, .ref gr, .int (nI me), .int (nI dp), .int (bI up), .int (nI mi), .int (nI ru), .long wp, .long wl]))] sz) := by
  refine vx_ofWH (hh := [(0, 10, 13, 13), (0, 10, 17, 15)]) (cc := cL_hill) (maxL := 5) (ret := (some .int)) (by decide) rfl ?_
  intro p e s m args below meth c s₁ B hml hv
  obtain ⟨hargs, ⟨hsz, hP, hT, hD0⟩, hST, hSQ⟩ := hv
  have hx := B.exec
  have hb := B.bytes
  have hr := B.returns
  have hts := atoms_spec (ws := wsL_hill) B.pre
  have htab := vx_table (x := yL_hill) B (hts _ List.mem_cons_self)
  have hown : s.vm.findClass RL = some m.cls := findClass_of_methodNamed B.named
  have hlocks := B.notSynchronized
  subst hsz
  have hK := hT.1
  have hD := hD0.self (sz := s.heap.size)
  generalize hAe : va_A [(h0, .inr (5, [.ref ai, .ref pu, .ref pa, .ref ga, .ref sc, .ref hi, .ref gr, .int (nI me), .int (nI dp), .int (bI up), .int (nI mi), .int (nI ru), .long wp, .long wl]))] s.heap.size = A at hD hSQ ⊢
  have hA : ∀ q : Nat, s.heap.size ≤ q → A q := fun q h => by rw [← hAe]; exact Or.inr h
  obtain ⟨H, hHe⟩ : ∃ H : Heap, H = s.heap := ⟨_, rfl⟩
  have hS : va_S A s.heap H [] := by rw [hHe]; exact va_S.rf
  rw [← hHe] at hP
  suffices K0 : W p l e (headSpec wsL_hill ({ frames := 8, cells := 1, slots := 6, locals := 127 } : Room)).room s m args below meth c H [] 0 0 (vx_MQ below (Qi9 D A [(h0, .inr (5, [.ref ai, .ref pu, .ref pa, .ref ga, .ref sc, .ref hi, .ref gr, .int (nI me), .int (nI dp), .int (bI up), .int (nI mi), .int (nI ru), .long wp, .long wl]))] (nI 2)) XN args s 1 6 A) (entryFrame m args 5) by rw [hHe] at K0; exact K0
  refine W.eq (g2 := entryFrame m ([.ref h0, .int (nI ki), .int x1, .ref ou] : List Value).toArray 5) (by rw [hargs]) ?_
  have hl := lv_entry ([.ref h0, .int (nI ki), .int x1, .ref ou]) (n := 5) (Nat.le_of_ble_eq_true rfl)
  rw [lg_entry_eq]
  generalize (lg_sl ([.ref h0, .int (nI ki), .int x1, .ref ou]) ++ List.replicate (5 - (lg_sl ([.ref h0, .int (nI ki), .int x1, .ref ou])).length) Slot.unset).toArray = ls at hl ⊢
  have hl : lv_has ls 5 [(0, .ref h0), (1, .int (nI ki)), (2, .int x1), (3, .ref ou)] := hl
  generalize ([] : List Loc) = locs at hS ⊢
  refine lv_aload_n hx hb dL_hill_0 rfl (lv_at hl 3 rfl) ?_
  refine lv_iconst (v := nI 0) hx hb dL_hill_1 (by decide) ?_
  refine lv_aload_n hx hb dL_hill_2 rfl (lv_at hl 0 rfl) ?_
  refine lv_iload_n hx hb dL_hill_3 rfl (lv_at hl 1 rfl) ?_
  refine lv_iload_n hx hb dL_hill_4 rfl (lv_at hl 2 rfl) ?_
  refine wk_i (wc := [(h0, .inr (5, [.ref ai, .ref pu, .ref pa, .ref ga, .ref sc, .ref hi, .ref gr, .int (nI me), .int (nI dp), .int (bI up), .int (nI mi), .int (nI ru), .long wp, .long wl]))]) (own := RL) (E := "java/lang/IllegalArgumentException") hown (tableOf [(0, 10, 13, 13)]) ⟨0, 10, 17, 15⟩ (tableOf []) (htab.trans rfl) (fun z hz => by rw [List.mem_singleton.mp hz]; exact (by exact Or.inr ⟨by decide, "java/lang/IndexOutOfBoundsException", hts (.classLink RL 13 "java/lang/IndexOutOfBoundsException") (by decide +kernel), hST.2.1.2.1⟩)) (by decide) (by decide) (hts (.classLink RL 15 "java/lang/IllegalArgumentException") (by decide +kernel)) hST.2.1.1.2.1 hP hD hS hA [0] rfl rfl (vx_runV (As := [.int (nI ki), .int x1]) (rest := [.int (nI 0), .ref ou]) ⟨hx, hb, hml, hown, hts⟩ (x_X5_hill_1 l hlst D cI cJ cZ h0 ai pu pa ga sc hi gr me dp up mi ru wp wl ki x1 hki hbad H.size) (cwV 2 hts gL_hill_X5_hill rfl rfl rfl (by decide +kernel) ⟨Nat.le_of_ble_eq_true rfl, Nat.le_of_ble_eq_true rfl⟩) (pxV (wc := [(h0, .inr (5, [.ref ai, .ref pu, .ref pa, .ref ga, .ref sc, .ref hi, .ref gr, .int (nI me), .int (nI dp), .int (bI up), .int (nI mi), .int (nI ru), .long wp, .long wl]))]) hT hP hD hA [0] rfl rfl 0 rfl rfl hST hSQ hS) rfl rfl hl.1 rfl (lv_room (Nat.le_of_ble_eq_true rfl)) dL_hill_5 ⟨Nat.le_of_ble_eq_true rfl, Nat.le_of_ble_eq_true rfl⟩) (fun q9 H locs hP hD hS => ?_)
  refine lv_astore (lv' := [(4, .ref q9), (0, .ref h0), (1, .int (nI ki)), (2, .int x1), (3, .ref ou)]) hx hb dL_hill_17 hl (by decide) rfl (fun ls hl => ?_)
  refine lv_iconst (v := nI 2) hx hb dL_hill_19 (by decide) ?_
  exact vx_ret (fin_i hx hb hr hlocks hP hD hS rfl dL_hill_20)
set_option maxHeartbeats 4000000 in
set_option maxRecDepth 100000 in
theorem w_L_drift_b0 (l : Launch) (hlst : l.stackTraces = false) (D : va_G) (cI cJ cZ : ClassId) (h0 : Nat) (ai : Nat) (pu : Nat) (pa : Nat) (ga : Nat) (sc : Nat) (hi : Nat) (gr : Nat) (me : Nat) (dp : Nat) (up : Bool) (mi : Nat) (ru : Nat) (wp : Int64) (wl : Int64) (x0 : Int32) (bb : Bool) (ou : Nat) (hbad : x0.toInt < 0 ∨ 60 < x0.toInt) (sz : Nat) : vx_Met l yL_drift wsL_drift ({ frames := 8, cells := 1, slots := 6, locals := 127 } : Room) (va_Pc [.ref h0, .int x0, .int (bI bb), .ref ou] (xPre D cI cJ cZ [(h0, .inr (5, [.ref ai, .ref pu, .ref pa, .ref ga, .ref sc, .ref hi, .ref gr, .int (nI me), .int (nI dp), .int (bI up), .int (nI mi), .int (nI ru), .long wp, .long wl]))] sz)) (Qi9 D (va_A [(h0, .inr (5, [.ref ai, .ref pu, .ref pa, .ref ga, .ref sc, .ref hi, .ref gr, .int (nI me), .int (nI dp), .int (bI up), .int (nI mi), .int (nI ru), .long wp, .long wl]))] sz) [(h0, .inr (5, [.ref ai, .ref pu, .ref pa, .ref ga, .ref sc, .ref hi, .ref gr, .int (nI me), .int (nI dp), .int (bI up), .int (nI mi), .int (nI ru), .long wp, .long wl]))] (nI 1)) XN 1 6 (va_A [(h0, .inr (5, [.ref ai, .ref pu, .ref pa, .ref ga, .ref sc, .ref hi, .ref gr, .int (nI me), .int (nI dp), .int (bI up), .int (nI mi), .int (nI ru), .long wp, .long wl]))] sz) := by
  refine vx_ofWH (hh := [(0, 10, 13, 15)]) (cc := cL_drift) (maxL := 5) (ret := (some .int)) (by decide) rfl ?_
  intro p e s m args below meth c s₁ B hml hv
  obtain ⟨hargs, ⟨hsz, hP, hT, hD0⟩, hST, hSQ⟩ := hv
  have hx := B.exec
  have hb := B.bytes
  have hr := B.returns
  have hts := atoms_spec (ws := wsL_drift) B.pre
  have htab := vx_table (x := yL_drift) B (hts _ List.mem_cons_self)
  have hown : s.vm.findClass RL = some m.cls := findClass_of_methodNamed B.named
  have hlocks := B.notSynchronized
  subst hsz
  have hK := hT.1
  have hD := hD0.self (sz := s.heap.size)
  generalize hAe : va_A [(h0, .inr (5, [.ref ai, .ref pu, .ref pa, .ref ga, .ref sc, .ref hi, .ref gr, .int (nI me), .int (nI dp), .int (bI up), .int (nI mi), .int (nI ru), .long wp, .long wl]))] s.heap.size = A at hD hSQ ⊢
  have hA : ∀ q : Nat, s.heap.size ≤ q → A q := fun q h => by rw [← hAe]; exact Or.inr h
  obtain ⟨H, hHe⟩ : ∃ H : Heap, H = s.heap := ⟨_, rfl⟩
  have hS : va_S A s.heap H [] := by rw [hHe]; exact va_S.rf
  rw [← hHe] at hP
  suffices K0 : W p l e (headSpec wsL_drift ({ frames := 8, cells := 1, slots := 6, locals := 127 } : Room)).room s m args below meth c H [] 0 0 (vx_MQ below (Qi9 D A [(h0, .inr (5, [.ref ai, .ref pu, .ref pa, .ref ga, .ref sc, .ref hi, .ref gr, .int (nI me), .int (nI dp), .int (bI up), .int (nI mi), .int (nI ru), .long wp, .long wl]))] (nI 1)) XN args s 1 6 A) (entryFrame m args 5) by rw [hHe] at K0; exact K0
  refine W.eq (g2 := entryFrame m ([.ref h0, .int x0, .int (bI bb), .ref ou] : List Value).toArray 5) (by rw [hargs]) ?_
  have hl := lv_entry ([.ref h0, .int x0, .int (bI bb), .ref ou]) (n := 5) (Nat.le_of_ble_eq_true rfl)
  rw [lg_entry_eq]
  generalize (lg_sl ([.ref h0, .int x0, .int (bI bb), .ref ou]) ++ List.replicate (5 - (lg_sl ([.ref h0, .int x0, .int (bI bb), .ref ou])).length) Slot.unset).toArray = ls at hl ⊢
  have hl : lv_has ls 5 [(0, .ref h0), (1, .int x0), (2, .int (bI bb)), (3, .ref ou)] := hl
  generalize ([] : List Loc) = locs at hS ⊢
  refine lv_aload_n hx hb dL_drift_0 rfl (lv_at hl 3 rfl) ?_
  refine lv_iconst (v := nI 0) hx hb dL_drift_1 (by decide) ?_
  refine lv_aload_n hx hb dL_drift_2 rfl (lv_at hl 0 rfl) ?_
  refine lv_iload_n hx hb dL_drift_3 rfl (lv_at hl 1 rfl) ?_
  refine lv_iload_n hx hb dL_drift_4 rfl (lv_at hl 2 rfl) ?_
  refine wk_i (wc := [(h0, .inr (5, [.ref ai, .ref pu, .ref pa, .ref ga, .ref sc, .ref hi, .ref gr, .int (nI me), .int (nI dp), .int (bI up), .int (nI mi), .int (nI ru), .long wp, .long wl]))]) (own := RL) (E := "java/lang/IllegalArgumentException") hown (tableOf []) ⟨0, 10, 13, 15⟩ (tableOf []) (htab.trans rfl) (fun z hz => by cases hz) (by decide) (by decide) (hts (.classLink RL 15 "java/lang/IllegalArgumentException") (by decide +kernel)) hST.2.1.1.2.1 hP hD hS hA [0] rfl rfl (vx_runV (As := [.int x0, .int (bI bb)]) (rest := [.int (nI 0), .ref ou]) ⟨hx, hb, hml, hown, hts⟩ (x_X5_drift_0 l hlst D cI cJ cZ h0 ai pu pa ga sc hi gr me dp up mi ru wp wl x0 bb hbad H.size) (cwV 2 hts gL_drift_X5_drift rfl rfl rfl (by decide +kernel) ⟨Nat.le_of_ble_eq_true rfl, Nat.le_of_ble_eq_true rfl⟩) (pxV (wc := [(h0, .inr (5, [.ref ai, .ref pu, .ref pa, .ref ga, .ref sc, .ref hi, .ref gr, .int (nI me), .int (nI dp), .int (bI up), .int (nI mi), .int (nI ru), .long wp, .long wl]))]) hT hP hD hA [0] rfl rfl 0 rfl rfl hST hSQ hS) rfl rfl hl.1 rfl (lv_room (Nat.le_of_ble_eq_true rfl)) dL_drift_5 ⟨Nat.le_of_ble_eq_true rfl, Nat.le_of_ble_eq_true rfl⟩) (fun q9 H locs hP hD hS => ?_)
  refine lv_astore (lv' := [(4, .ref q9), (0, .ref h0), (1, .int x0), (2, .int (bI bb)), (3, .ref ou)]) hx hb dL_drift_13 hl (by decide) rfl (fun ls hl => ?_)
  refine lv_iconst (v := nI 1) hx hb dL_drift_15 (by decide) ?_
  exact vx_ret (fin_i hx hb hr hlocks hP hD hS rfl dL_drift_16)
set_option maxHeartbeats 4000000 in
set_option maxRecDepth 100000 in
theorem w_L_gauge_b0 (l : Launch) (hlst : l.stackTraces = false) (D : va_G) (cI cJ cZ : ClassId) (h0 : Nat) (ai : Nat) (pu : Nat) (pa : Nat) (ga : Nat) (sc : Nat) (hi : Nat) (gr : Nat) (me : Nat) (dp : Nat) (up : Bool) (mi : Nat) (ru : Nat) (wp : Int64) (wl : Int64) (x0 : Int32) (bb : Bool) (ou : Nat) (hbad : x0.toInt < 0 ∨ 20 ≤ x0.toInt) (sz : Nat) : vx_Met l yL_gauge wsL_gauge ({ frames := 8, cells := 1, slots := 6, locals := 125 } : Room) (va_Pc [.ref h0, .int x0, .int (bI bb), .ref ou] (xPre D cI cJ cZ [(h0, .inr (5, [.ref ai, .ref pu, .ref pa, .ref ga, .ref sc, .ref hi, .ref gr, .int (nI me), .int (nI dp), .int (bI up), .int (nI mi), .int (nI ru), .long wp, .long wl]))] sz)) (Qi9 D (va_A [(h0, .inr (5, [.ref ai, .ref pu, .ref pa, .ref ga, .ref sc, .ref hi, .ref gr, .int (nI me), .int (nI dp), .int (bI up), .int (nI mi), .int (nI ru), .long wp, .long wl]))] sz) [(h0, .inr (5, [.ref ai, .ref pu, .ref pa, .ref ga, .ref sc, .ref hi, .ref gr, .int (nI me), .int (nI dp), .int (bI up), .int (nI mi), .int (nI ru), .long wp, .long wl]))] (nI 1)) XN 1 6 (va_A [(h0, .inr (5, [.ref ai, .ref pu, .ref pa, .ref ga, .ref sc, .ref hi, .ref gr, .int (nI me), .int (nI dp), .int (bI up), .int (nI mi), .int (nI ru), .long wp, .long wl]))] sz) := by
  refine vx_ofWH (hh := [(0, 17, 20, 13)]) (cc := cL_gauge) (maxL := 5) (ret := (some .int)) (by decide) rfl ?_
  intro p e s m args below meth c s₁ B hml hv
  obtain ⟨hargs, ⟨hsz, hP, hT, hD0⟩, hST, hSQ⟩ := hv
  have hx := B.exec
  have hb := B.bytes
  have hr := B.returns
  have hts := atoms_spec (ws := wsL_gauge) B.pre
  have htab := vx_table (x := yL_gauge) B (hts _ List.mem_cons_self)
  have hown : s.vm.findClass RL = some m.cls := findClass_of_methodNamed B.named
  have hlocks := B.notSynchronized
  subst hsz
  have hK := hT.1
  have hD := hD0.self (sz := s.heap.size)
  generalize hAe : va_A [(h0, .inr (5, [.ref ai, .ref pu, .ref pa, .ref ga, .ref sc, .ref hi, .ref gr, .int (nI me), .int (nI dp), .int (bI up), .int (nI mi), .int (nI ru), .long wp, .long wl]))] s.heap.size = A at hD hSQ ⊢
  have hA : ∀ q : Nat, s.heap.size ≤ q → A q := fun q h => by rw [← hAe]; exact Or.inr h
  obtain ⟨H, hHe⟩ : ∃ H : Heap, H = s.heap := ⟨_, rfl⟩
  have hS : va_S A s.heap H [] := by rw [hHe]; exact va_S.rf
  rw [← hHe] at hP
  suffices K0 : W p l e (headSpec wsL_gauge ({ frames := 8, cells := 1, slots := 6, locals := 125 } : Room)).room s m args below meth c H [] 0 0 (vx_MQ below (Qi9 D A [(h0, .inr (5, [.ref ai, .ref pu, .ref pa, .ref ga, .ref sc, .ref hi, .ref gr, .int (nI me), .int (nI dp), .int (bI up), .int (nI mi), .int (nI ru), .long wp, .long wl]))] (nI 1)) XN args s 1 6 A) (entryFrame m args 5) by rw [hHe] at K0; exact K0
  refine W.eq (g2 := entryFrame m ([.ref h0, .int x0, .int (bI bb), .ref ou] : List Value).toArray 5) (by rw [hargs]) ?_
  have hl := lv_entry ([.ref h0, .int x0, .int (bI bb), .ref ou]) (n := 5) (Nat.le_of_ble_eq_true rfl)
  rw [lg_entry_eq]
  generalize (lg_sl ([.ref h0, .int x0, .int (bI bb), .ref ou]) ++ List.replicate (5 - (lg_sl ([.ref h0, .int x0, .int (bI bb), .ref ou])).length) Slot.unset).toArray = ls at hl ⊢
  have hl : lv_has ls 5 [(0, .ref h0), (1, .int x0), (2, .int (bI bb)), (3, .ref ou)] := hl
  generalize ([] : List Loc) = locs at hS ⊢
  refine lv_aload_n hx hb dL_gauge_0 rfl (lv_at hl 3 rfl) ?_
  refine lv_iconst (v := nI 0) hx hb dL_gauge_1 (by decide) ?_
  refine lv_aload_n hx hb dL_gauge_2 rfl (lv_at hl 0 rfl) ?_
  refine lv_iload_n hx hb dL_gauge_3 rfl (lv_at hl 1 rfl) ?_
  refine lv_iload_n hx hb dL_gauge_4 rfl (lv_at hl 2 rfl) ?_
  refine wk_i (wc := [(h0, .inr (5, [.ref ai, .ref pu, .ref pa, .ref ga, .ref sc, .ref hi, .ref gr, .int (nI me), .int (nI dp), .int (bI up), .int (nI mi), .int (nI ru), .long wp, .long wl]))]) (own := RL) (E := "java/lang/IndexOutOfBoundsException") hown (tableOf []) ⟨0, 17, 20, 13⟩ (tableOf []) (htab.trans rfl) (fun z hz => by cases hz) (by decide) (by decide) (hts (.classLink RL 13 "java/lang/IndexOutOfBoundsException") (by decide +kernel)) hST.2.1.1.1 hP hD hS hA [0] rfl rfl (vx_runV (As := [.int x0, .int (bI bb)]) (rest := [.int (nI 0), .ref ou]) ⟨hx, hb, hml, hown, hts⟩ (x_X5_gauge_0 l hlst D cI cJ cZ h0 ai pu pa ga sc hi gr me dp up mi ru wp wl x0 bb hbad H.size) (cwV 2 hts gL_gauge_X5_gauge rfl rfl rfl (by decide +kernel) ⟨Nat.le_of_ble_eq_true rfl, Nat.le_of_ble_eq_true rfl⟩) (pxV (wc := [(h0, .inr (5, [.ref ai, .ref pu, .ref pa, .ref ga, .ref sc, .ref hi, .ref gr, .int (nI me), .int (nI dp), .int (bI up), .int (nI mi), .int (nI ru), .long wp, .long wl]))]) hT hP hD hA [0] rfl rfl 0 rfl rfl hST hSQ hS) rfl rfl hl.1 rfl (lv_room (Nat.le_of_ble_eq_true rfl)) dL_gauge_5 ⟨Nat.le_of_ble_eq_true rfl, Nat.le_of_ble_eq_true rfl⟩) (fun q9 H locs hP hD hS => ?_)
  refine lv_astore (lv' := [(4, .ref q9), (0, .ref h0), (1, .int x0), (2, .int (bI bb)), (3, .ref ou)]) hx hb dL_gauge_20 hl (by decide) rfl (fun ls hl => ?_)
  refine lv_iconst (v := nI 1) hx hb dL_gauge_22 (by decide) ?_
  exact vx_ret (fin_i hx hb hr hlocks hP hD hS rfl dL_gauge_23)
set_option maxHeartbeats 4000000 in
set_option maxRecDepth 100000 in
theorem w_L_clog_b0 (l : Launch) (hlst : l.stackTraces = false) (D : va_G) (cI cJ cZ : ClassId) (h0 : Nat) (ai : Nat) (pu : Nat) (pa : Nat) (ga : Nat) (sc : Nat) (hi : Nat) (gr : Nat) (me : Nat) (dp : Nat) (up : Bool) (mi : Nat) (ru : Nat) (wp : Int64) (wl : Int64) (x0 : Int32) (bb : Bool) (ou : Nat) (hbad : x0.toInt < 0 ∨ 20 ≤ x0.toInt) (sz : Nat) : vx_Met l yL_clog wsL_clog ({ frames := 8, cells := 1, slots := 6, locals := 125 } : Room) (va_Pc [.ref h0, .int x0, .int (bI bb), .ref ou] (xPre D cI cJ cZ [(h0, .inr (5, [.ref ai, .ref pu, .ref pa, .ref ga, .ref sc, .ref hi, .ref gr, .int (nI me), .int (nI dp), .int (bI up), .int (nI mi), .int (nI ru), .long wp, .long wl]))] sz)) (Qi9 D (va_A [(h0, .inr (5, [.ref ai, .ref pu, .ref pa, .ref ga, .ref sc, .ref hi, .ref gr, .int (nI me), .int (nI dp), .int (bI up), .int (nI mi), .int (nI ru), .long wp, .long wl]))] sz) [(h0, .inr (5, [.ref ai, .ref pu, .ref pa, .ref ga, .ref sc, .ref hi, .ref gr, .int (nI me), .int (nI dp), .int (bI up), .int (nI mi), .int (nI ru), .long wp, .long wl]))] (nI 1)) XN 1 6 (va_A [(h0, .inr (5, [.ref ai, .ref pu, .ref pa, .ref ga, .ref sc, .ref hi, .ref gr, .int (nI me), .int (nI dp), .int (bI up), .int (nI mi), .int (nI ru), .long wp, .long wl]))] sz) := by
  refine vx_ofWH (hh := [(0, 17, 20, 13)]) (cc := cL_clog) (maxL := 5) (ret := (some .int)) (by decide) rfl ?_
  intro p e s m args below meth c s₁ B hml hv
  obtain ⟨hargs, ⟨hsz, hP, hT, hD0⟩, hST, hSQ⟩ := hv
  have hx := B.exec
  have hb := B.bytes
  have hr := B.returns
  have hts := atoms_spec (ws := wsL_clog) B.pre
  have htab := vx_table (x := yL_clog) B (hts _ List.mem_cons_self)
  have hown : s.vm.findClass RL = some m.cls := findClass_of_methodNamed B.named
  have hlocks := B.notSynchronized
  subst hsz
  have hK := hT.1
  have hD := hD0.self (sz := s.heap.size)
  generalize hAe : va_A [(h0, .inr (5, [.ref ai, .ref pu, .ref pa, .ref ga, .ref sc, .ref hi, .ref gr, .int (nI me), .int (nI dp), .int (bI up), .int (nI mi), .int (nI ru), .long wp, .long wl]))] s.heap.size = A at hD hSQ ⊢
  have hA : ∀ q : Nat, s.heap.size ≤ q → A q := fun q h => by rw [← hAe]; exact Or.inr h
  obtain ⟨H, hHe⟩ : ∃ H : Heap, H = s.heap := ⟨_, rfl⟩
  have hS : va_S A s.heap H [] := by rw [hHe]; exact va_S.rf
  rw [← hHe] at hP
  suffices K0 : W p l e (headSpec wsL_clog ({ frames := 8, cells := 1, slots := 6, locals := 125 } : Room)).room s m args below meth c H [] 0 0 (vx_MQ below (Qi9 D A [(h0, .inr (5, [.ref ai, .ref pu, .ref pa, .ref ga, .ref sc, .ref hi, .ref gr, .int (nI me), .int (nI dp), .int (bI up), .int (nI mi), .int (nI ru), .long wp, .long wl]))] (nI 1)) XN args s 1 6 A) (entryFrame m args 5) by rw [hHe] at K0; exact K0
  refine W.eq (g2 := entryFrame m ([.ref h0, .int x0, .int (bI bb), .ref ou] : List Value).toArray 5) (by rw [hargs]) ?_
  have hl := lv_entry ([.ref h0, .int x0, .int (bI bb), .ref ou]) (n := 5) (Nat.le_of_ble_eq_true rfl)
  rw [lg_entry_eq]
  generalize (lg_sl ([.ref h0, .int x0, .int (bI bb), .ref ou]) ++ List.replicate (5 - (lg_sl ([.ref h0, .int x0, .int (bI bb), .ref ou])).length) Slot.unset).toArray = ls at hl ⊢
  have hl : lv_has ls 5 [(0, .ref h0), (1, .int x0), (2, .int (bI bb)), (3, .ref ou)] := hl
  generalize ([] : List Loc) = locs at hS ⊢
  refine lv_aload_n hx hb dL_clog_0 rfl (lv_at hl 3 rfl) ?_
  refine lv_iconst (v := nI 0) hx hb dL_clog_1 (by decide) ?_
  refine lv_aload_n hx hb dL_clog_2 rfl (lv_at hl 0 rfl) ?_
  refine lv_iload_n hx hb dL_clog_3 rfl (lv_at hl 1 rfl) ?_
  refine lv_iload_n hx hb dL_clog_4 rfl (lv_at hl 2 rfl) ?_
  refine wk_i (wc := [(h0, .inr (5, [.ref ai, .ref pu, .ref pa, .ref ga, .ref sc, .ref hi, .ref gr, .int (nI me), .int (nI dp), .int (bI up), .int (nI mi), .int (nI ru), .long wp, .long wl]))]) (own := RL) (E := "java/lang/IndexOutOfBoundsException") hown (tableOf []) ⟨0, 17, 20, 13⟩ (tableOf []) (htab.trans rfl) (fun z hz => by cases hz) (by decide) (by decide) (hts (.classLink RL 13 "java/lang/IndexOutOfBoundsException") (by decide +kernel)) hST.2.1.1.1 hP hD hS hA [0] rfl rfl (vx_runV (As := [.int x0, .int (bI bb)]) (rest := [.int (nI 0), .ref ou]) ⟨hx, hb, hml, hown, hts⟩ (x_X5_clog_0 l hlst D cI cJ cZ h0 ai pu pa ga sc hi gr me dp up mi ru wp wl x0 bb hbad H.size) (cwV 2 hts gL_clog_X5_clog rfl rfl rfl (by decide +kernel) ⟨Nat.le_of_ble_eq_true rfl, Nat.le_of_ble_eq_true rfl⟩) (pxV (wc := [(h0, .inr (5, [.ref ai, .ref pu, .ref pa, .ref ga, .ref sc, .ref hi, .ref gr, .int (nI me), .int (nI dp), .int (bI up), .int (nI mi), .int (nI ru), .long wp, .long wl]))]) hT hP hD hA [0] rfl rfl 0 rfl rfl hST hSQ hS) rfl rfl hl.1 rfl (lv_room (Nat.le_of_ble_eq_true rfl)) dL_clog_5 ⟨Nat.le_of_ble_eq_true rfl, Nat.le_of_ble_eq_true rfl⟩) (fun q9 H locs hP hD hS => ?_)
  refine lv_astore (lv' := [(4, .ref q9), (0, .ref h0), (1, .int x0), (2, .int (bI bb)), (3, .ref ou)]) hx hb dL_clog_20 hl (by decide) rfl (fun ls hl => ?_)
  refine lv_iconst (v := nI 1) hx hb dL_clog_22 (by decide) ?_
  exact vx_ret (fin_i hx hb hr hlocks hP hD hS rfl dL_clog_23)
set_option maxHeartbeats 4000000 in
set_option maxRecDepth 100000 in
theorem w_L_clog_b1 (l : Launch) (hlst : l.stackTraces = false) (D : va_G) (cI cJ cZ : ClassId) (h0 : Nat) (ai : Nat) (pu : Nat) (pa : Nat) (ga : Nat) (sc : Nat) (hi : Nat) (gr : Nat) (me : Nat) (dp : Nat) (up : Bool) (mi : Nat) (ru : Nat) (wp : Int64) (wl : Int64) (g1 : Nat) (g2 : Nat) (g3 : Nat) (UP : Nat → Bool) (CL : Nat → Bool) (CO : Nat → Int64) (ki : Nat) (bb : Bool) (ou : Nat) (hki : ki < 20) (hup : UP ki = false) (sz : Nat) : vx_Met l yL_clog wsL_clog ({ frames := 8, cells := 1, slots := 6, locals := 126 } : Room) (va_Pc [.ref h0, .int (nI ki), .int (bI bb), .ref ou] (xPre D cI cJ cZ [(h0, .inr (5, [.ref ai, .ref pu, .ref pa, .ref ga, .ref sc, .ref hi, .ref gr, .int (nI me), .int (nI dp), .int (bI up), .int (nI mi), .int (nI ru), .long wp, .long wl])), (ga, .inr (1, [.ref g1, .ref g2, .ref g3])), (g1, .inl (cZ, 20, .inl (bA UP))), (g2, .inl (cZ, 20, .inl (bA CL))), (g3, .inl (cJ, 20, .inr (.inl CO)))] sz)) (Qi9 D (va_A [(h0, .inr (5, [.ref ai, .ref pu, .ref pa, .ref ga, .ref sc, .ref hi, .ref gr, .int (nI me), .int (nI dp), .int (bI up), .int (nI mi), .int (nI ru), .long wp, .long wl])), (ga, .inr (1, [.ref g1, .ref g2, .ref g3])), (g1, .inl (cZ, 20, .inl (bA UP))), (g2, .inl (cZ, 20, .inl (bA CL))), (g3, .inl (cJ, 20, .inr (.inl CO)))] sz) [(h0, .inr (5, [.ref ai, .ref pu, .ref pa, .ref ga, .ref sc, .ref hi, .ref gr, .int (nI me), .int (nI dp), .int (bI up), .int (nI mi), .int (nI ru), .long wp, .long wl])), (ga, .inr (1, [.ref g1, .ref g2, .ref g3])), (g1, .inl (cZ, 20, .inl (bA UP))), (g2, .inl (cZ, 20, .inl (bA CL))), (g3, .inl (cJ, 20, .inr (.inl CO)))] (nI 1)) XN 1 6 (va_A [(h0, .inr (5, [.ref ai, .ref pu, .ref pa, .ref ga, .ref sc, .ref hi, .ref gr, .int (nI me), .int (nI dp), .int (bI up), .int (nI mi), .int (nI ru), .long wp, .long wl])), (ga, .inr (1, [.ref g1, .ref g2, .ref g3])), (g1, .inl (cZ, 20, .inl (bA UP))), (g2, .inl (cZ, 20, .inl (bA CL))), (g3, .inl (cJ, 20, .inr (.inl CO)))] sz) := by
  refine vx_ofWH (hh := [(0, 17, 20, 13)]) (cc := cL_clog) (maxL := 5) (ret := (some .int)) (by decide) rfl ?_
  intro p e s m args below meth c s₁ B hml hv
  obtain ⟨hargs, ⟨hsz, hP, hT, hD0⟩, hST, hSQ⟩ := hv
  have hx := B.exec
  have hb := B.bytes
  have hr := B.returns
  have hts := atoms_spec (ws := wsL_clog) B.pre
  have htab := vx_table (x := yL_clog) B (hts _ List.mem_cons_self)
  have hown : s.vm.findClass RL = some m.cls := findClass_of_methodNamed B.named
  have hlocks := B.notSynchronized
  subst hsz
  have hK := hT.1
  have hD := hD0.self (sz := s.heap.size)
  generalize hAe : va_A [(h0, .inr (5, [.ref ai, .ref pu, .ref pa, .ref ga, .ref sc, .ref hi, .ref gr, .int (nI me), .int (nI dp), .int (bI up), .int (nI mi), .int (nI ru), .long wp, .long wl])), (ga, .inr (1, [.ref g1, .ref g2, .ref g3])), (g1, .inl (cZ, 20, .inl (bA UP))), (g2, .inl (cZ, 20, .inl (bA CL))), (g3, .inl (cJ, 20, .inr (.inl CO)))] s.heap.size = A at hD hSQ ⊢
  have hA : ∀ q : Nat, s.heap.size ≤ q → A q := fun q h => by rw [← hAe]; exact Or.inr h
  obtain ⟨H, hHe⟩ : ∃ H : Heap, H = s.heap := ⟨_, rfl⟩
  have hS : va_S A s.heap H [] := by rw [hHe]; exact va_S.rf
  rw [← hHe] at hP
  suffices K0 : W p l e (headSpec wsL_clog ({ frames := 8, cells := 1, slots := 6, locals := 126 } : Room)).room s m args below meth c H [] 0 0 (vx_MQ below (Qi9 D A [(h0, .inr (5, [.ref ai, .ref pu, .ref pa, .ref ga, .ref sc, .ref hi, .ref gr, .int (nI me), .int (nI dp), .int (bI up), .int (nI mi), .int (nI ru), .long wp, .long wl])), (ga, .inr (1, [.ref g1, .ref g2, .ref g3])), (g1, .inl (cZ, 20, .inl (bA UP))), (g2, .inl (cZ, 20, .inl (bA CL))), (g3, .inl (cJ, 20, .inr (.inl CO)))] (nI 1)) XN args s 1 6 A) (entryFrame m args 5) by rw [hHe] at K0; exact K0
  refine W.eq (g2 := entryFrame m ([.ref h0, .int (nI ki), .int (bI bb), .ref ou] : List Value).toArray 5) (by rw [hargs]) ?_
  have hl := lv_entry ([.ref h0, .int (nI ki), .int (bI bb), .ref ou]) (n := 5) (Nat.le_of_ble_eq_true rfl)
  rw [lg_entry_eq]
  generalize (lg_sl ([.ref h0, .int (nI ki), .int (bI bb), .ref ou]) ++ List.replicate (5 - (lg_sl ([.ref h0, .int (nI ki), .int (bI bb), .ref ou])).length) Slot.unset).toArray = ls at hl ⊢
  have hl : lv_has ls 5 [(0, .ref h0), (1, .int (nI ki)), (2, .int (bI bb)), (3, .ref ou)] := hl
  generalize ([] : List Loc) = locs at hS ⊢
  refine lv_aload_n hx hb dL_clog_0 rfl (lv_at hl 3 rfl) ?_
  refine lv_iconst (v := nI 0) hx hb dL_clog_1 (by decide) ?_
  refine lv_aload_n hx hb dL_clog_2 rfl (lv_at hl 0 rfl) ?_
  refine lv_iload_n hx hb dL_clog_3 rfl (lv_at hl 1 rfl) ?_
  refine lv_iload_n hx hb dL_clog_4 rfl (lv_at hl 2 rfl) ?_
  refine wk_i (wc := [(h0, .inr (5, [.ref ai, .ref pu, .ref pa, .ref ga, .ref sc, .ref hi, .ref gr, .int (nI me), .int (nI dp), .int (bI up), .int (nI mi), .int (nI ru), .long wp, .long wl])), (ga, .inr (1, [.ref g1, .ref g2, .ref g3])), (g1, .inl (cZ, 20, .inl (bA UP))), (g2, .inl (cZ, 20, .inl (bA CL))), (g3, .inl (cJ, 20, .inr (.inl CO)))]) (own := RL) (E := "java/lang/IndexOutOfBoundsException") hown (tableOf []) ⟨0, 17, 20, 13⟩ (tableOf []) (htab.trans rfl) (fun z hz => by cases hz) (by decide) (by decide) (hts (.classLink RL 13 "java/lang/IndexOutOfBoundsException") (by decide +kernel)) hST.2.1.1.1 hP hD hS hA [0, 1, 2, 3, 4] rfl rfl (vx_runV (As := [.int (nI ki), .int (bI bb)]) (rest := [.int (nI 0), .ref ou]) ⟨hx, hb, hml, hown, hts⟩ (x_X5_clog_1 l hlst D cI cJ cZ h0 ai pu pa ga sc hi gr me dp up mi ru wp wl g1 g2 g3 UP CL CO ki bb hki hup H.size) (cwV 2 hts gL_clog_X5_clog rfl rfl rfl (by decide +kernel) ⟨Nat.le_of_ble_eq_true rfl, Nat.le_of_ble_eq_true rfl⟩) (pxV (wc := [(h0, .inr (5, [.ref ai, .ref pu, .ref pa, .ref ga, .ref sc, .ref hi, .ref gr, .int (nI me), .int (nI dp), .int (bI up), .int (nI mi), .int (nI ru), .long wp, .long wl])), (ga, .inr (1, [.ref g1, .ref g2, .ref g3])), (g1, .inl (cZ, 20, .inl (bA UP))), (g2, .inl (cZ, 20, .inl (bA CL))), (g3, .inl (cJ, 20, .inr (.inl CO)))]) hT hP hD hA [0, 1, 2, 3, 4] rfl rfl 0 rfl rfl hST hSQ hS) rfl rfl hl.1 rfl (lv_room (Nat.le_of_ble_eq_true rfl)) dL_clog_5 ⟨Nat.le_of_ble_eq_true rfl, Nat.le_of_ble_eq_true rfl⟩) (fun q9 H locs hP hD hS => ?_)
  refine lv_astore (lv' := [(4, .ref q9), (0, .ref h0), (1, .int (nI ki)), (2, .int (bI bb)), (3, .ref ou)]) hx hb dL_clog_20 hl (by decide) rfl (fun ls hl => ?_)
  refine lv_iconst (v := nI 1) hx hb dL_clog_22 (by decide) ?_
  exact vx_ret (fin_i hx hb hr hlocks hP hD hS rfl dL_clog_23)
set_option maxHeartbeats 4000000 in
set_option maxRecDepth 100000 in
theorem w_L_pass_b0 (l : Launch) (hlst : l.stackTraces = false) (D : va_G) (cI cJ cZ : ClassId) (h0 : Nat) (ai : Nat) (pu : Nat) (pa : Nat) (ga : Nat) (sc : Nat) (hi : Nat) (gr : Nat) (me : Nat) (dp : Nat) (up : Bool) (mi : Nat) (ru : Nat) (wp : Int64) (wl : Int64) (x0 : Int32) (ou : Nat) (hbad : x0.toInt < 1 ∨ 60 < x0.toInt) (sz : Nat) : vx_Met l yL_pass wsL_pass ({ frames := 8, cells := 1, slots := 6, locals := 126 } : Room) (va_Pc [.ref h0, .int x0, .ref ou] (xPre D cI cJ cZ [(h0, .inr (5, [.ref ai, .ref pu, .ref pa, .ref ga, .ref sc, .ref hi, .ref gr, .int (nI me), .int (nI dp), .int (bI up), .int (nI mi), .int (nI ru), .long wp, .long wl]))] sz)) (Qi9 D (va_A [(h0, .inr (5, [.ref ai, .ref pu, .ref pa, .ref ga, .ref sc, .ref hi, .ref gr, .int (nI me), .int (nI dp), .int (bI up), .int (nI mi), .int (nI ru), .long wp, .long wl]))] sz) [(h0, .inr (5, [.ref ai, .ref pu, .ref pa, .ref ga, .ref sc, .ref hi, .ref gr, .int (nI me), .int (nI dp), .int (bI up), .int (nI mi), .int (nI ru), .long wp, .long wl]))] (nI 1)) XN 1 6 (va_A [(h0, .inr (5, [.ref ai, .ref pu, .ref pa, .ref ga, .ref sc, .ref hi, .ref gr, .int (nI me), .int (nI dp), .int (bI up), .int (nI mi), .int (nI ru), .long wp, .long wl]))] sz) := by
  refine vx_ofWH (hh := [(0, 9, 12, 15), (0, 9, 15, 17)]) (cc := cL_pass) (maxL := 4) (ret := (some .int)) (by decide) rfl ?_
  intro p e s m args below meth c s₁ B hml hv
  obtain ⟨hargs, ⟨hsz, hP, hT, hD0⟩, hST, hSQ⟩ := hv
  have hx := B.exec
  have hb := B.bytes
  have hr := B.returns
  have hts := atoms_spec (ws := wsL_pass) B.pre
  have htab := vx_table (x := yL_pass) B (hts _ List.mem_cons_self)
  have hown : s.vm.findClass RL = some m.cls := findClass_of_methodNamed B.named
  have hlocks := B.notSynchronized
  subst hsz
  have hK := hT.1
  have hD := hD0.self (sz := s.heap.size)
  generalize hAe : va_A [(h0, .inr (5, [.ref ai, .ref pu, .ref pa, .ref ga, .ref sc, .ref hi, .ref gr, .int (nI me), .int (nI dp), .int (bI up), .int (nI mi), .int (nI ru), .long wp, .long wl]))] s.heap.size = A at hD hSQ ⊢
  have hA : ∀ q : Nat, s.heap.size ≤ q → A q := fun q h => by rw [← hAe]; exact Or.inr h
  obtain ⟨H, hHe⟩ : ∃ H : Heap, H = s.heap := ⟨_, rfl⟩
  have hS : va_S A s.heap H [] := by rw [hHe]; exact va_S.rf
  rw [← hHe] at hP
  suffices K0 : W p l e (headSpec wsL_pass ({ frames := 8, cells := 1, slots := 6, locals := 126 } : Room)).room s m args below meth c H [] 0 0 (vx_MQ below (Qi9 D A [(h0, .inr (5, [.ref ai, .ref pu, .ref pa, .ref ga, .ref sc, .ref hi, .ref gr, .int (nI me), .int (nI dp), .int (bI up), .int (nI mi), .int (nI ru), .long wp, .long wl]))] (nI 1)) XN args s 1 6 A) (entryFrame m args 4) by rw [hHe] at K0; exact K0
  refine W.eq (g2 := entryFrame m ([.ref h0, .int x0, .ref ou] : List Value).toArray 4) (by rw [hargs]) ?_
  have hl := lv_entry ([.ref h0, .int x0, .ref ou]) (n := 4) (Nat.le_of_ble_eq_true rfl)
  rw [lg_entry_eq]
  generalize (lg_sl ([.ref h0, .int x0, .ref ou]) ++ List.replicate (4 - (lg_sl ([.ref h0, .int x0, .ref ou])).length) Slot.unset).toArray = ls at hl ⊢
  have hl : lv_has ls 4 [(0, .ref h0), (1, .int x0), (2, .ref ou)] := hl
  generalize ([] : List Loc) = locs at hS ⊢
  refine lv_aload_n hx hb dL_pass_0 rfl (lv_at hl 2 rfl) ?_
  refine lv_iconst (v := nI 0) hx hb dL_pass_1 (by decide) ?_
  refine lv_aload_n hx hb dL_pass_2 rfl (lv_at hl 0 rfl) ?_
  refine lv_iload_n hx hb dL_pass_3 rfl (lv_at hl 1 rfl) ?_
  refine wk_i (wc := [(h0, .inr (5, [.ref ai, .ref pu, .ref pa, .ref ga, .ref sc, .ref hi, .ref gr, .int (nI me), .int (nI dp), .int (bI up), .int (nI mi), .int (nI ru), .long wp, .long wl]))]) (own := RL) (E := "java/lang/IllegalArgumentException") hown (tableOf []) ⟨0, 9, 12, 15⟩ (tableOf [(0, 9, 15, 17)]) (htab.trans rfl) (fun z hz => by cases hz) (by decide) (by decide) (hts (.classLink RL 15 "java/lang/IllegalArgumentException") (by decide +kernel)) hST.2.1.1.2.1 hP hD hS hA [0] rfl rfl (vx_runV (As := [.int x0]) (rest := [.int (nI 0), .ref ou]) ⟨hx, hb, hml, hown, hts⟩ (x_X5_pass_0 l hlst D cI cJ cZ h0 ai pu pa ga sc hi gr me dp up mi ru wp wl x0 hbad H.size) (cwV 1 hts gL_pass_X5_pass rfl rfl rfl (by decide +kernel) ⟨Nat.le_of_ble_eq_true rfl, Nat.le_of_ble_eq_true rfl⟩) (pxV (wc := [(h0, .inr (5, [.ref ai, .ref pu, .ref pa, .ref ga, .ref sc, .ref hi, .ref gr, .int (nI me), .int (nI dp), .int (bI up), .int (nI mi), .int (nI ru), .long wp, .long wl]))]) hT hP hD hA [0] rfl rfl 0 rfl rfl hST hSQ hS) rfl rfl hl.1 rfl (lv_room (Nat.le_of_ble_eq_true rfl)) dL_pass_4 ⟨Nat.le_of_ble_eq_true rfl, Nat.le_of_ble_eq_true rfl⟩) (fun q9 H locs hP hD hS => ?_)
  refine lv_astore_n (lv' := [(3, .ref q9), (0, .ref h0), (1, .int x0), (2, .ref ou)]) hx hb dL_pass_12 rfl hl (by decide) rfl (fun ls hl => ?_)
  refine lv_iconst (v := nI 1) hx hb dL_pass_13 (by decide) ?_
  exact vx_ret (fin_i hx hb hr hlocks hP hD hS rfl dL_pass_14)
set_option maxHeartbeats 4000000 in
set_option maxRecDepth 100000 in
theorem w_L_pass_b1 (l : Launch) (hlst : l.stackTraces = false) (D : va_G) (cI cJ cZ : ClassId) (h0 : Nat) (ai : Nat) (pu : Nat) (pa : Nat) (ga : Nat) (sc : Nat) (hi : Nat) (gr : Nat) (me : Nat) (dp : Nat) (up : Bool) (mi : Nat) (ru : Nat) (wp : Int64) (wl : Int64) (mn : Nat) (ou : Nat) (h1mn : 1 ≤ mn) (h2mn : mn ≤ 60) (hmm : 600 < mi + mn) (hmi : mi ≤ 600) (sz : Nat) : vx_Met l yL_pass wsL_pass ({ frames := 7, cells := 1, slots := 6, locals := 104 } : Room) (va_Pc [.ref h0, .int (nI mn), .ref ou] (xPre D cI cJ cZ [(h0, .inr (5, [.ref ai, .ref pu, .ref pa, .ref ga, .ref sc, .ref hi, .ref gr, .int (nI me), .int (nI dp), .int (bI up), .int (nI mi), .int (nI ru), .long wp, .long wl]))] sz)) (Qi9 D (va_A [(h0, .inr (5, [.ref ai, .ref pu, .ref pa, .ref ga, .ref sc, .ref hi, .ref gr, .int (nI me), .int (nI dp), .int (bI up), .int (nI mi), .int (nI ru), .long wp, .long wl]))] sz) [(h0, .inr (5, [.ref ai, .ref pu, .ref pa, .ref ga, .ref sc, .ref hi, .ref gr, .int (nI me), .int (nI dp), .int (bI up), .int (nI mi), .int (nI ru), .long wp, .long wl]))] (nI 2)) XN 1 6 (va_A [(h0, .inr (5, [.ref ai, .ref pu, .ref pa, .ref ga, .ref sc, .ref hi, .ref gr, .int (nI me), .int (nI dp), .int (bI up), .int (nI mi), .int (nI ru), .long wp, .long wl]))] sz) := by
  refine vx_ofWH (hh := [(0, 9, 12, 15), (0, 9, 15, 17)]) (cc := cL_pass) (maxL := 4) (ret := (some .int)) (by decide) rfl ?_
  intro p e s m args below meth c s₁ B hml hv
  obtain ⟨hargs, ⟨hsz, hP, hT, hD0⟩, hST, hSQ⟩ := hv
  have hx := B.exec
  have hb := B.bytes
  have hr := B.returns
  have hts := atoms_spec (ws := wsL_pass) B.pre
  have htab := vx_table (x := yL_pass) B (hts _ List.mem_cons_self)
  have hown : s.vm.findClass RL = some m.cls := findClass_of_methodNamed B.named
  have hlocks := B.notSynchronized
  subst hsz
  have hK := hT.1
  have hD := hD0.self (sz := s.heap.size)
  generalize hAe : va_A [(h0, .inr (5, [.ref ai, .ref pu, .ref pa, .ref ga, .ref sc, .ref hi, .ref gr, .int (nI me), .int (nI dp), .int (bI up), .int (nI mi), .int (nI ru), .long wp, .long wl]))] s.heap.size = A at hD hSQ ⊢
  have hA : ∀ q : Nat, s.heap.size ≤ q → A q := fun q h => by rw [← hAe]; exact Or.inr h
  obtain ⟨H, hHe⟩ : ∃ H : Heap, H = s.heap := ⟨_, rfl⟩
  have hS : va_S A s.heap H [] := by rw [hHe]; exact va_S.rf
  rw [← hHe] at hP
  suffices K0 : W p l e (headSpec wsL_pass ({ frames := 7, cells := 1, slots := 6, locals := 104 } : Room)).room s m args below meth c H [] 0 0 (vx_MQ below (Qi9 D A [(h0, .inr (5, [.ref ai, .ref pu, .ref pa, .ref ga, .ref sc, .ref hi, .ref gr, .int (nI me), .int (nI dp), .int (bI up), .int (nI mi), .int (nI ru), .long wp, .long wl]))] (nI 2)) XN args s 1 6 A) (entryFrame m args 4) by rw [hHe] at K0; exact K0
  refine W.eq (g2 := entryFrame m ([.ref h0, .int (nI mn), .ref ou] : List Value).toArray 4) (by rw [hargs]) ?_
  have hl := lv_entry ([.ref h0, .int (nI mn), .ref ou]) (n := 4) (Nat.le_of_ble_eq_true rfl)
  rw [lg_entry_eq]
  generalize (lg_sl ([.ref h0, .int (nI mn), .ref ou]) ++ List.replicate (4 - (lg_sl ([.ref h0, .int (nI mn), .ref ou])).length) Slot.unset).toArray = ls at hl ⊢
  have hl : lv_has ls 4 [(0, .ref h0), (1, .int (nI mn)), (2, .ref ou)] := hl
  generalize ([] : List Loc) = locs at hS ⊢
  refine lv_aload_n hx hb dL_pass_0 rfl (lv_at hl 2 rfl) ?_
  refine lv_iconst (v := nI 0) hx hb dL_pass_1 (by decide) ?_
  refine lv_aload_n hx hb dL_pass_2 rfl (lv_at hl 0 rfl) ?_
  refine lv_iload_n hx hb dL_pass_3 rfl (lv_at hl 1 rfl) ?_
  refine wk_i (wc := [(h0, .inr (5, [.ref ai, .ref pu, .ref pa, .ref ga, .ref sc, .ref hi, .ref gr, .int (nI me), .int (nI dp), .int (bI up), .int (nI mi), .int (nI ru), .long wp, .long wl]))]) (own := RL) (E := "java/lang/IllegalStateException") hown (tableOf [(0, 9, 12, 15)]) ⟨0, 9, 15, 17⟩ (tableOf []) (htab.trans rfl) (fun z hz => by rw [List.mem_singleton.mp hz]; exact (by exact Or.inr ⟨by decide, "java/lang/IllegalArgumentException", hts (.classLink RL 15 "java/lang/IllegalArgumentException") (by decide +kernel), hST.2.1.2.2.2⟩)) (by decide) (by decide) (hts (.classLink RL 17 "java/lang/IllegalStateException") (by decide +kernel)) hST.2.1.1.2.2 hP hD hS hA [0] rfl rfl (vx_runV (As := [.int (nI mn)]) (rest := [.int (nI 0), .ref ou]) ⟨hx, hb, hml, hown, hts⟩ (x_X5_pass_1 l hlst D cI cJ cZ h0 ai pu pa ga sc hi gr me dp up mi ru wp wl mn h1mn h2mn hmm hmi H.size) (cwV 1 hts gL_pass_X5_pass rfl rfl rfl (by decide +kernel) ⟨Nat.le_of_ble_eq_true rfl, Nat.le_of_ble_eq_true rfl⟩) (pxV (wc := [(h0, .inr (5, [.ref ai, .ref pu, .ref pa, .ref ga, .ref sc, .ref hi, .ref gr, .int (nI me), .int (nI dp), .int (bI up), .int (nI mi), .int (nI ru), .long wp, .long wl]))]) hT hP hD hA [0] rfl rfl 0 rfl rfl hST hSQ hS) rfl rfl hl.1 rfl (lv_room (Nat.le_of_ble_eq_true rfl)) dL_pass_4 ⟨Nat.le_of_ble_eq_true rfl, Nat.le_of_ble_eq_true rfl⟩) (fun q9 H locs hP hD hS => ?_)
  refine lv_astore_n (lv' := [(3, .ref q9), (0, .ref h0), (1, .int (nI mn)), (2, .ref ou)]) hx hb dL_pass_15 rfl hl (by decide) rfl (fun ls hl => ?_)
  refine lv_iconst (v := nI 2) hx hb dL_pass_16 (by decide) ?_
  exact vx_ret (fin_i hx hb hr hlocks hP hD hS rfl dL_pass_17)
set_option maxHeartbeats 4000000 in
set_option maxRecDepth 100000 in
theorem w_L_scan_b0 (l : Launch) (hlst : l.stackTraces = false) (D : va_G) (cI cJ cZ : ClassId) (h0 : Nat) (ai : Nat) (pu : Nat) (pa : Nat) (ga : Nat) (sc : Nat) (hi : Nat) (gr : Nat) (me : Nat) (dp : Nat) (up : Bool) (mi : Nat) (ru : Nat) (wp : Int64) (wl : Int64) (x0 : Int32) (ou : Nat) (hbad : x0.toInt < 0 ∨ 3 < x0.toInt) (sz : Nat) : vx_Met l yL_scan wsL_scan ({ frames := 8, cells := 1, slots := 6, locals := 127 } : Room) (va_Pc [.ref h0, .int x0, .ref ou] (xPre D cI cJ cZ [(h0, .inr (5, [.ref ai, .ref pu, .ref pa, .ref ga, .ref sc, .ref hi, .ref gr, .int (nI me), .int (nI dp), .int (bI up), .int (nI mi), .int (nI ru), .long wp, .long wl]))] sz)) (Qi9 D (va_A [(h0, .inr (5, [.ref ai, .ref pu, .ref pa, .ref ga, .ref sc, .ref hi, .ref gr, .int (nI me), .int (nI dp), .int (bI up), .int (nI mi), .int (nI ru), .long wp, .long wl]))] sz) [(h0, .inr (5, [.ref ai, .ref pu, .ref pa, .ref ga, .ref sc, .ref hi, .ref gr, .int (nI me), .int (nI dp), .int (bI up), .int (nI mi), .int (nI ru), .long wp, .long wl]))] (nI 1)) XN 1 6 (va_A [(h0, .inr (5, [.ref ai, .ref pu, .ref pa, .ref ga, .ref sc, .ref hi, .ref gr, .int (nI me), .int (nI dp), .int (bI up), .int (nI mi), .int (nI ru), .long wp, .long wl]))] sz) := by
  refine vx_ofWH (hh := [(0, 9, 12, 15), (0, 9, 15, 17)]) (cc := cL_scan) (maxL := 4) (ret := (some .int)) (by decide) rfl ?_
  intro p e s m args below meth c s₁ B hml hv
  obtain ⟨hargs, ⟨hsz, hP, hT, hD0⟩, hST, hSQ⟩ := hv
  have hx := B.exec
  have hb := B.bytes
  have hr := B.returns
  have hts := atoms_spec (ws := wsL_scan) B.pre
  have htab := vx_table (x := yL_scan) B (hts _ List.mem_cons_self)
  have hown : s.vm.findClass RL = some m.cls := findClass_of_methodNamed B.named
  have hlocks := B.notSynchronized
  subst hsz
  have hK := hT.1
  have hD := hD0.self (sz := s.heap.size)
  generalize hAe : va_A [(h0, .inr (5, [.ref ai, .ref pu, .ref pa, .ref ga, .ref sc, .ref hi, .ref gr, .int (nI me), .int (nI dp), .int (bI up), .int (nI mi), .int (nI ru), .long wp, .long wl]))] s.heap.size = A at hD hSQ ⊢
  have hA : ∀ q : Nat, s.heap.size ≤ q → A q := fun q h => by rw [← hAe]; exact Or.inr h
  obtain ⟨H, hHe⟩ : ∃ H : Heap, H = s.heap := ⟨_, rfl⟩
  have hS : va_S A s.heap H [] := by rw [hHe]; exact va_S.rf
  rw [← hHe] at hP
  suffices K0 : W p l e (headSpec wsL_scan ({ frames := 8, cells := 1, slots := 6, locals := 127 } : Room)).room s m args below meth c H [] 0 0 (vx_MQ below (Qi9 D A [(h0, .inr (5, [.ref ai, .ref pu, .ref pa, .ref ga, .ref sc, .ref hi, .ref gr, .int (nI me), .int (nI dp), .int (bI up), .int (nI mi), .int (nI ru), .long wp, .long wl]))] (nI 1)) XN args s 1 6 A) (entryFrame m args 4) by rw [hHe] at K0; exact K0
  refine W.eq (g2 := entryFrame m ([.ref h0, .int x0, .ref ou] : List Value).toArray 4) (by rw [hargs]) ?_
  have hl := lv_entry ([.ref h0, .int x0, .ref ou]) (n := 4) (Nat.le_of_ble_eq_true rfl)
  rw [lg_entry_eq]
  generalize (lg_sl ([.ref h0, .int x0, .ref ou]) ++ List.replicate (4 - (lg_sl ([.ref h0, .int x0, .ref ou])).length) Slot.unset).toArray = ls at hl ⊢
  have hl : lv_has ls 4 [(0, .ref h0), (1, .int x0), (2, .ref ou)] := hl
  generalize ([] : List Loc) = locs at hS ⊢
  refine lv_aload_n hx hb dL_scan_0 rfl (lv_at hl 2 rfl) ?_
  refine lv_iconst (v := nI 0) hx hb dL_scan_1 (by decide) ?_
  refine lv_aload_n hx hb dL_scan_2 rfl (lv_at hl 0 rfl) ?_
  refine lv_iload_n hx hb dL_scan_3 rfl (lv_at hl 1 rfl) ?_
  refine wk_i (wc := [(h0, .inr (5, [.ref ai, .ref pu, .ref pa, .ref ga, .ref sc, .ref hi, .ref gr, .int (nI me), .int (nI dp), .int (bI up), .int (nI mi), .int (nI ru), .long wp, .long wl]))]) (own := RL) (E := "java/lang/IllegalArgumentException") hown (tableOf []) ⟨0, 9, 12, 15⟩ (tableOf [(0, 9, 15, 17)]) (htab.trans rfl) (fun z hz => by cases hz) (by decide) (by decide) (hts (.classLink RL 15 "java/lang/IllegalArgumentException") (by decide +kernel)) hST.2.1.1.2.1 hP hD hS hA [0] rfl rfl (vx_runV (As := [.int x0]) (rest := [.int (nI 0), .ref ou]) ⟨hx, hb, hml, hown, hts⟩ (x_X5_scan_0 l hlst D cI cJ cZ h0 ai pu pa ga sc hi gr me dp up mi ru wp wl x0 hbad H.size) (cwV 1 hts gL_scan_X5_scan rfl rfl rfl (by decide +kernel) ⟨Nat.le_of_ble_eq_true rfl, Nat.le_of_ble_eq_true rfl⟩) (pxV (wc := [(h0, .inr (5, [.ref ai, .ref pu, .ref pa, .ref ga, .ref sc, .ref hi, .ref gr, .int (nI me), .int (nI dp), .int (bI up), .int (nI mi), .int (nI ru), .long wp, .long wl]))]) hT hP hD hA [0] rfl rfl 0 rfl rfl hST hSQ hS) rfl rfl hl.1 rfl (lv_room (Nat.le_of_ble_eq_true rfl)) dL_scan_4 ⟨Nat.le_of_ble_eq_true rfl, Nat.le_of_ble_eq_true rfl⟩) (fun q9 H locs hP hD hS => ?_)
  refine lv_astore_n (lv' := [(3, .ref q9), (0, .ref h0), (1, .int x0), (2, .ref ou)]) hx hb dL_scan_12 rfl hl (by decide) rfl (fun ls hl => ?_)
  refine lv_iconst (v := nI 1) hx hb dL_scan_13 (by decide) ?_
  exact vx_ret (fin_i hx hb hr hlocks hP hD hS rfl dL_scan_14)
set_option maxHeartbeats 4000000 in
set_option maxRecDepth 100000 in
theorem w_L_scan_b1 (l : Launch) (hlst : l.stackTraces = false) (D : va_G) (cI cJ cZ : ClassId) (h0 : Nat) (ai : Nat) (pu : Nat) (pa : Nat) (ga : Nat) (sc : Nat) (hi : Nat) (gr : Nat) (me : Nat) (dp : Nat) (up : Bool) (mi : Nat) (ru : Nat) (wp : Int64) (wl : Int64) (s1 : Nat) (s2 : Nat) (EC : Nat → Int64) (RU : Nat → Nat) (sm : Nat) (ev : Nat) (ou : Nat) (h2ev : ev ≤ 3) (hsm : 30 ≤ sm) (hsb : sm ≤ 100) (sz : Nat) : vx_Met l yL_scan wsL_scan ({ frames := 7, cells := 1, slots := 6, locals := 105 } : Room) (va_Pc [.ref h0, .int (nI ev), .ref ou] (xPre D cI cJ cZ [(h0, .inr (5, [.ref ai, .ref pu, .ref pa, .ref ga, .ref sc, .ref hi, .ref gr, .int (nI me), .int (nI dp), .int (bI up), .int (nI mi), .int (nI ru), .long wp, .long wl])), (sc, .inr (4, [.ref s1, .ref s2, .int (nI sm)])), (s1, .inl (cJ, 600, .inr (.inl EC))), (s2, .inl (cI, 30, .inl (nA RU)))] sz)) (Qi9 D (va_A [(h0, .inr (5, [.ref ai, .ref pu, .ref pa, .ref ga, .ref sc, .ref hi, .ref gr, .int (nI me), .int (nI dp), .int (bI up), .int (nI mi), .int (nI ru), .long wp, .long wl])), (sc, .inr (4, [.ref s1, .ref s2, .int (nI sm)])), (s1, .inl (cJ, 600, .inr (.inl EC))), (s2, .inl (cI, 30, .inl (nA RU)))] sz) [(h0, .inr (5, [.ref ai, .ref pu, .ref pa, .ref ga, .ref sc, .ref hi, .ref gr, .int (nI me), .int (nI dp), .int (bI up), .int (nI mi), .int (nI ru), .long wp, .long wl])), (sc, .inr (4, [.ref s1, .ref s2, .int (nI sm)])), (s1, .inl (cJ, 600, .inr (.inl EC))), (s2, .inl (cI, 30, .inl (nA RU)))] (nI 2)) XN 1 6 (va_A [(h0, .inr (5, [.ref ai, .ref pu, .ref pa, .ref ga, .ref sc, .ref hi, .ref gr, .int (nI me), .int (nI dp), .int (bI up), .int (nI mi), .int (nI ru), .long wp, .long wl])), (sc, .inr (4, [.ref s1, .ref s2, .int (nI sm)])), (s1, .inl (cJ, 600, .inr (.inl EC))), (s2, .inl (cI, 30, .inl (nA RU)))] sz) := by
  refine vx_ofWH (hh := [(0, 9, 12, 15), (0, 9, 15, 17)]) (cc := cL_scan) (maxL := 4) (ret := (some .int)) (by decide) rfl ?_
  intro p e s m args below meth c s₁ B hml hv
  obtain ⟨hargs, ⟨hsz, hP, hT, hD0⟩, hST, hSQ⟩ := hv
  have hx := B.exec
  have hb := B.bytes
  have hr := B.returns
  have hts := atoms_spec (ws := wsL_scan) B.pre
  have htab := vx_table (x := yL_scan) B (hts _ List.mem_cons_self)
  have hown : s.vm.findClass RL = some m.cls := findClass_of_methodNamed B.named
  have hlocks := B.notSynchronized
  subst hsz
  have hK := hT.1
  have hD := hD0.self (sz := s.heap.size)
  generalize hAe : va_A [(h0, .inr (5, [.ref ai, .ref pu, .ref pa, .ref ga, .ref sc, .ref hi, .ref gr, .int (nI me), .int (nI dp), .int (bI up), .int (nI mi), .int (nI ru), .long wp, .long wl])), (sc, .inr (4, [.ref s1, .ref s2, .int (nI sm)])), (s1, .inl (cJ, 600, .inr (.inl EC))), (s2, .inl (cI, 30, .inl (nA RU)))] s.heap.size = A at hD hSQ ⊢
  have hA : ∀ q : Nat, s.heap.size ≤ q → A q := fun q h => by rw [← hAe]; exact Or.inr h
  obtain ⟨H, hHe⟩ : ∃ H : Heap, H = s.heap := ⟨_, rfl⟩
  have hS : va_S A s.heap H [] := by rw [hHe]; exact va_S.rf
  rw [← hHe] at hP
  suffices K0 : W p l e (headSpec wsL_scan ({ frames := 7, cells := 1, slots := 6, locals := 105 } : Room)).room s m args below meth c H [] 0 0 (vx_MQ below (Qi9 D A [(h0, .inr (5, [.ref ai, .ref pu, .ref pa, .ref ga, .ref sc, .ref hi, .ref gr, .int (nI me), .int (nI dp), .int (bI up), .int (nI mi), .int (nI ru), .long wp, .long wl])), (sc, .inr (4, [.ref s1, .ref s2, .int (nI sm)])), (s1, .inl (cJ, 600, .inr (.inl EC))), (s2, .inl (cI, 30, .inl (nA RU)))] (nI 2)) XN args s 1 6 A) (entryFrame m args 4) by rw [hHe] at K0; exact K0
  refine W.eq (g2 := entryFrame m ([.ref h0, .int (nI ev), .ref ou] : List Value).toArray 4) (by rw [hargs]) ?_
  have hl := lv_entry ([.ref h0, .int (nI ev), .ref ou]) (n := 4) (Nat.le_of_ble_eq_true rfl)
  rw [lg_entry_eq]
  generalize (lg_sl ([.ref h0, .int (nI ev), .ref ou]) ++ List.replicate (4 - (lg_sl ([.ref h0, .int (nI ev), .ref ou])).length) Slot.unset).toArray = ls at hl ⊢
  have hl : lv_has ls 4 [(0, .ref h0), (1, .int (nI ev)), (2, .ref ou)] := hl
  generalize ([] : List Loc) = locs at hS ⊢
  refine lv_aload_n hx hb dL_scan_0 rfl (lv_at hl 2 rfl) ?_
  refine lv_iconst (v := nI 0) hx hb dL_scan_1 (by decide) ?_
  refine lv_aload_n hx hb dL_scan_2 rfl (lv_at hl 0 rfl) ?_
  refine lv_iload_n hx hb dL_scan_3 rfl (lv_at hl 1 rfl) ?_
  refine wk_i (wc := [(h0, .inr (5, [.ref ai, .ref pu, .ref pa, .ref ga, .ref sc, .ref hi, .ref gr, .int (nI me), .int (nI dp), .int (bI up), .int (nI mi), .int (nI ru), .long wp, .long wl])), (sc, .inr (4, [.ref s1, .ref s2, .int (nI sm)])), (s1, .inl (cJ, 600, .inr (.inl EC))), (s2, .inl (cI, 30, .inl (nA RU)))]) (own := RL) (E := "java/lang/IllegalStateException") hown (tableOf [(0, 9, 12, 15)]) ⟨0, 9, 15, 17⟩ (tableOf []) (htab.trans rfl) (fun z hz => by rw [List.mem_singleton.mp hz]; exact (by exact Or.inr ⟨by decide, "java/lang/IllegalArgumentException", hts (.classLink RL 15 "java/lang/IllegalArgumentException") (by decide +kernel), hST.2.1.2.2.2⟩)) (by decide) (by decide) (hts (.classLink RL 17 "java/lang/IllegalStateException") (by decide +kernel)) hST.2.1.1.2.2 hP hD hS hA [0, 1, 2, 3] rfl rfl (vx_runV (As := [.int (nI ev)]) (rest := [.int (nI 0), .ref ou]) ⟨hx, hb, hml, hown, hts⟩ (x_X5_scan_1 l hlst D cI cJ cZ h0 ai pu pa ga sc hi gr me dp up mi ru wp wl s1 s2 EC RU sm ev h2ev hsm hsb H.size) (cwV 1 hts gL_scan_X5_scan rfl rfl rfl (by decide +kernel) ⟨Nat.le_of_ble_eq_true rfl, Nat.le_of_ble_eq_true rfl⟩) (pxV (wc := [(h0, .inr (5, [.ref ai, .ref pu, .ref pa, .ref ga, .ref sc, .ref hi, .ref gr, .int (nI me), .int (nI dp), .int (bI up), .int (nI mi), .int (nI ru), .long wp, .long wl])), (sc, .inr (4, [.ref s1, .ref s2, .int (nI sm)])), (s1, .inl (cJ, 600, .inr (.inl EC))), (s2, .inl (cI, 30, .inl (nA RU)))]) hT hP hD hA [0, 1, 2, 3] rfl rfl 0 rfl rfl hST hSQ hS) rfl rfl hl.1 rfl (lv_room (Nat.le_of_ble_eq_true rfl)) dL_scan_4 ⟨Nat.le_of_ble_eq_true rfl, Nat.le_of_ble_eq_true rfl⟩) (fun q9 H locs hP hD hS => ?_)
  refine lv_astore_n (lv' := [(3, .ref q9), (0, .ref h0), (1, .int (nI ev)), (2, .ref ou)]) hx hb dL_scan_15 rfl hl (by decide) rfl (fun ls hl => ?_)
  refine lv_iconst (v := nI 2) hx hb dL_scan_16 (by decide) ?_
  exact vx_ret (fin_i hx hb hr hlocks hP hD hS rfl dL_scan_17)
set_option maxHeartbeats 4000000 in
set_option maxRecDepth 100000 in
theorem w_L_rule_b0 (l : Launch) (hlst : l.stackTraces = false) (D : va_G) (cI cJ cZ : ClassId) (h0 : Nat) (ai : Nat) (pu : Nat) (pa : Nat) (ga : Nat) (sc : Nat) (hi : Nat) (gr : Nat) (me : Nat) (dp : Nat) (up : Bool) (mi : Nat) (ru : Nat) (wp : Int64) (wl : Int64) (x0 : Int32) (ou : Nat) (hbad : x0.toInt < 1 ∨ 1000 < x0.toInt) (sz : Nat) : vx_Met l yL_rule wsL_rule ({ frames := 8, cells := 1, slots := 6, locals := 126 } : Room) (va_Pc [.ref h0, .int x0, .ref ou] (xPre D cI cJ cZ [(h0, .inr (5, [.ref ai, .ref pu, .ref pa, .ref ga, .ref sc, .ref hi, .ref gr, .int (nI me), .int (nI dp), .int (bI up), .int (nI mi), .int (nI ru), .long wp, .long wl]))] sz)) (Qi9 D (va_A [(h0, .inr (5, [.ref ai, .ref pu, .ref pa, .ref ga, .ref sc, .ref hi, .ref gr, .int (nI me), .int (nI dp), .int (bI up), .int (nI mi), .int (nI ru), .long wp, .long wl]))] sz) [(h0, .inr (5, [.ref ai, .ref pu, .ref pa, .ref ga, .ref sc, .ref hi, .ref gr, .int (nI me), .int (nI dp), .int (bI up), .int (nI mi), .int (nI ru), .long wp, .long wl]))] (nI 1)) XN 1 6 (va_A [(h0, .inr (5, [.ref ai, .ref pu, .ref pa, .ref ga, .ref sc, .ref hi, .ref gr, .int (nI me), .int (nI dp), .int (bI up), .int (nI mi), .int (nI ru), .long wp, .long wl]))] sz) := by
  refine vx_ofWH (hh := [(0, 9, 12, 15)]) (cc := cL_rule) (maxL := 4) (ret := (some .int)) (by decide) rfl ?_
  intro p e s m args below meth c s₁ B hml hv
  obtain ⟨hargs, ⟨hsz, hP, hT, hD0⟩, hST, hSQ⟩ := hv
  have hx := B.exec
  have hb := B.bytes
  have hr := B.returns
  have hts := atoms_spec (ws := wsL_rule) B.pre
  have htab := vx_table (x := yL_rule) B (hts _ List.mem_cons_self)
  have hown : s.vm.findClass RL = some m.cls := findClass_of_methodNamed B.named
  have hlocks := B.notSynchronized
  subst hsz
  have hK := hT.1
  have hD := hD0.self (sz := s.heap.size)
  generalize hAe : va_A [(h0, .inr (5, [.ref ai, .ref pu, .ref pa, .ref ga, .ref sc, .ref hi, .ref gr, .int (nI me), .int (nI dp), .int (bI up), .int (nI mi), .int (nI ru), .long wp, .long wl]))] s.heap.size = A at hD hSQ ⊢
  have hA : ∀ q : Nat, s.heap.size ≤ q → A q := fun q h => by rw [← hAe]; exact Or.inr h
  obtain ⟨H, hHe⟩ : ∃ H : Heap, H = s.heap := ⟨_, rfl⟩
  have hS : va_S A s.heap H [] := by rw [hHe]; exact va_S.rf
  rw [← hHe] at hP
  suffices K0 : W p l e (headSpec wsL_rule ({ frames := 8, cells := 1, slots := 6, locals := 126 } : Room)).room s m args below meth c H [] 0 0 (vx_MQ below (Qi9 D A [(h0, .inr (5, [.ref ai, .ref pu, .ref pa, .ref ga, .ref sc, .ref hi, .ref gr, .int (nI me), .int (nI dp), .int (bI up), .int (nI mi), .int (nI ru), .long wp, .long wl]))] (nI 1)) XN args s 1 6 A) (entryFrame m args 4) by rw [hHe] at K0; exact K0
  refine W.eq (g2 := entryFrame m ([.ref h0, .int x0, .ref ou] : List Value).toArray 4) (by rw [hargs]) ?_
  have hl := lv_entry ([.ref h0, .int x0, .ref ou]) (n := 4) (Nat.le_of_ble_eq_true rfl)
  rw [lg_entry_eq]
  generalize (lg_sl ([.ref h0, .int x0, .ref ou]) ++ List.replicate (4 - (lg_sl ([.ref h0, .int x0, .ref ou])).length) Slot.unset).toArray = ls at hl ⊢
  have hl : lv_has ls 4 [(0, .ref h0), (1, .int x0), (2, .ref ou)] := hl
  generalize ([] : List Loc) = locs at hS ⊢
  refine lv_aload_n hx hb dL_rule_0 rfl (lv_at hl 2 rfl) ?_
  refine lv_iconst (v := nI 0) hx hb dL_rule_1 (by decide) ?_
  refine lv_aload_n hx hb dL_rule_2 rfl (lv_at hl 0 rfl) ?_
  refine lv_iload_n hx hb dL_rule_3 rfl (lv_at hl 1 rfl) ?_
  refine wk_i (wc := [(h0, .inr (5, [.ref ai, .ref pu, .ref pa, .ref ga, .ref sc, .ref hi, .ref gr, .int (nI me), .int (nI dp), .int (bI up), .int (nI mi), .int (nI ru), .long wp, .long wl]))]) (own := RL) (E := "java/lang/IllegalArgumentException") hown (tableOf []) ⟨0, 9, 12, 15⟩ (tableOf []) (htab.trans rfl) (fun z hz => by cases hz) (by decide) (by decide) (hts (.classLink RL 15 "java/lang/IllegalArgumentException") (by decide +kernel)) hST.2.1.1.2.1 hP hD hS hA [0] rfl rfl (vx_runV (As := [.int x0]) (rest := [.int (nI 0), .ref ou]) ⟨hx, hb, hml, hown, hts⟩ (x_X5_rule_0 l hlst D cI cJ cZ h0 ai pu pa ga sc hi gr me dp up mi ru wp wl x0 hbad H.size) (cwV 1 hts gL_rule_X5_rule rfl rfl rfl (by decide +kernel) ⟨Nat.le_of_ble_eq_true rfl, Nat.le_of_ble_eq_true rfl⟩) (pxV (wc := [(h0, .inr (5, [.ref ai, .ref pu, .ref pa, .ref ga, .ref sc, .ref hi, .ref gr, .int (nI me), .int (nI dp), .int (bI up), .int (nI mi), .int (nI ru), .long wp, .long wl]))]) hT hP hD hA [0] rfl rfl 0 rfl rfl hST hSQ hS) rfl rfl hl.1 rfl (lv_room (Nat.le_of_ble_eq_true rfl)) dL_rule_4 ⟨Nat.le_of_ble_eq_true rfl, Nat.le_of_ble_eq_true rfl⟩) (fun q9 H locs hP hD hS => ?_)
  refine lv_astore_n (lv' := [(3, .ref q9), (0, .ref h0), (1, .int x0), (2, .ref ou)]) hx hb dL_rule_12 rfl hl (by decide) rfl (fun ls hl => ?_)
  refine lv_iconst (v := nI 1) hx hb dL_rule_13 (by decide) ?_
  exact vx_ret (fin_i hx hb hr hlocks hP hD hS rfl dL_rule_14)
set_option maxHeartbeats 4000000 in
set_option maxRecDepth 100000 in
theorem w_L_count_b0 (l : Launch) (hlst : l.stackTraces = false) (D : va_G) (cI cJ cZ : ClassId) (h0 : Nat) (ai : Nat) (pu : Nat) (pa : Nat) (ga : Nat) (sc : Nat) (hi : Nat) (gr : Nat) (me : Nat) (dp : Nat) (up : Bool) (mi : Nat) (ru : Nat) (wp : Int64) (wl : Int64) (x0 : Int32) (x1 : Int32) (x2 : Int32) (ou : Nat) (hbad : x0.toInt < 0 ∨ 20 ≤ x0.toInt) (sz : Nat) : vx_Met l yL_count wsL_count ({ frames := 8, cells := 1, slots := 6, locals := 125 } : Room) (va_Pc [.ref h0, .int x0, .int x1, .int x2, .ref ou] (xPre D cI cJ cZ [(h0, .inr (5, [.ref ai, .ref pu, .ref pa, .ref ga, .ref sc, .ref hi, .ref gr, .int (nI me), .int (nI dp), .int (bI up), .int (nI mi), .int (nI ru), .long wp, .long wl]))] sz)) (Qi9 D (va_A [(h0, .inr (5, [.ref ai, .ref pu, .ref pa, .ref ga, .ref sc, .ref hi, .ref gr, .int (nI me), .int (nI dp), .int (bI up), .int (nI mi), .int (nI ru), .long wp, .long wl]))] sz) [(h0, .inr (5, [.ref ai, .ref pu, .ref pa, .ref ga, .ref sc, .ref hi, .ref gr, .int (nI me), .int (nI dp), .int (bI up), .int (nI mi), .int (nI ru), .long wp, .long wl]))] (nI 1)) XN 1 6 (va_A [(h0, .inr (5, [.ref ai, .ref pu, .ref pa, .ref ga, .ref sc, .ref hi, .ref gr, .int (nI me), .int (nI dp), .int (bI up), .int (nI mi), .int (nI ru), .long wp, .long wl]))] sz) := by
  refine vx_ofWH (hh := [(0, 12, 15, 13), (0, 12, 19, 15)]) (cc := cL_count) (maxL := 6) (ret := (some .int)) (by decide) rfl ?_
  intro p e s m args below meth c s₁ B hml hv
  obtain ⟨hargs, ⟨hsz, hP, hT, hD0⟩, hST, hSQ⟩ := hv
  have hx := B.exec
  have hb := B.bytes
  have hr := B.returns
  have hts := atoms_spec (ws := wsL_count) B.pre
  have htab := vx_table (x := yL_count) B (hts _ List.mem_cons_self)
  have hown : s.vm.findClass RL = some m.cls := findClass_of_methodNamed B.named
  have hlocks := B.notSynchronized
  subst hsz
  have hK := hT.1
  have hD := hD0.self (sz := s.heap.size)
  generalize hAe : va_A [(h0, .inr (5, [.ref ai, .ref pu, .ref pa, .ref ga, .ref sc, .ref hi, .ref gr, .int (nI me), .int (nI dp), .int (bI up), .int (nI mi), .int (nI ru), .long wp, .long wl]))] s.heap.size = A at hD hSQ ⊢
  have hA : ∀ q : Nat, s.heap.size ≤ q → A q := fun q h => by rw [← hAe]; exact Or.inr h
  obtain ⟨H, hHe⟩ : ∃ H : Heap, H = s.heap := ⟨_, rfl⟩
  have hS : va_S A s.heap H [] := by rw [hHe]; exact va_S.rf
  rw [← hHe] at hP
  suffices K0 : W p l e (headSpec wsL_count ({ frames := 8, cells := 1, slots := 6, locals := 125 } : Room)).room s m args below meth c H [] 0 0 (vx_MQ below (Qi9 D A [(h0, .inr (5, [.ref ai, .ref pu, .ref pa, .ref ga, .ref sc, .ref hi, .ref gr, .int (nI me), .int (nI dp), .int (bI up), .int (nI mi), .int (nI ru), .long wp, .long wl]))] (nI 1)) XN args s 1 6 A) (entryFrame m args 6) by rw [hHe] at K0; exact K0
  refine W.eq (g2 := entryFrame m ([.ref h0, .int x0, .int x1, .int x2, .ref ou] : List Value).toArray 6) (by rw [hargs]) ?_
  have hl := lv_entry ([.ref h0, .int x0, .int x1, .int x2, .ref ou]) (n := 6) (Nat.le_of_ble_eq_true rfl)
  rw [lg_entry_eq]
  generalize (lg_sl ([.ref h0, .int x0, .int x1, .int x2, .ref ou]) ++ List.replicate (6 - (lg_sl ([.ref h0, .int x0, .int x1, .int x2, .ref ou])).length) Slot.unset).toArray = ls at hl ⊢
  have hl : lv_has ls 6 [(0, .ref h0), (1, .int x0), (2, .int x1), (3, .int x2), (4, .ref ou)] := hl
  generalize ([] : List Loc) = locs at hS ⊢
  refine lv_aload hx hb dL_count_0 (lv_at hl 4 rfl) ?_
  refine lv_iconst (v := nI 0) hx hb dL_count_2 (by decide) ?_
  refine lv_aload_n hx hb dL_count_3 rfl (lv_at hl 0 rfl) ?_
  refine lv_iload_n hx hb dL_count_4 rfl (lv_at hl 1 rfl) ?_
  refine lv_iload_n hx hb dL_count_5 rfl (lv_at hl 2 rfl) ?_
  refine lv_iload_n hx hb dL_count_6 rfl (lv_at hl 3 rfl) ?_
  refine wk_i (wc := [(h0, .inr (5, [.ref ai, .ref pu, .ref pa, .ref ga, .ref sc, .ref hi, .ref gr, .int (nI me), .int (nI dp), .int (bI up), .int (nI mi), .int (nI ru), .long wp, .long wl]))]) (own := RL) (E := "java/lang/IndexOutOfBoundsException") hown (tableOf []) ⟨0, 12, 15, 13⟩ (tableOf [(0, 12, 19, 15)]) (htab.trans rfl) (fun z hz => by cases hz) (by decide) (by decide) (hts (.classLink RL 13 "java/lang/IndexOutOfBoundsException") (by decide +kernel)) hST.2.1.1.1 hP hD hS hA [0] rfl rfl (vx_runV (As := [.int x0, .int x1, .int x2]) (rest := [.int (nI 0), .ref ou]) ⟨hx, hb, hml, hown, hts⟩ (x_X5_count_0 l hlst D cI cJ cZ h0 ai pu pa ga sc hi gr me dp up mi ru wp wl x0 x1 x2 hbad H.size) (cwV 3 hts gL_count_X5_count rfl rfl rfl (by decide +kernel) ⟨Nat.le_of_ble_eq_true rfl, Nat.le_of_ble_eq_true rfl⟩) (pxV (wc := [(h0, .inr (5, [.ref ai, .ref pu, .ref pa, .ref ga, .ref sc, .ref hi, .ref gr, .int (nI me), .int (nI dp), .int (bI up), .int (nI mi), .int (nI ru), .long wp, .long wl]))]) hT hP hD hA [0] rfl rfl 0 rfl rfl hST hSQ hS) rfl rfl hl.1 rfl (lv_room (Nat.le_of_ble_eq_true rfl)) dL_count_7 ⟨Nat.le_of_ble_eq_true rfl, Nat.le_of_ble_eq_true rfl⟩) (fun q9 H locs hP hD hS => ?_)
  refine lv_astore (lv' := [(5, .ref q9), (0, .ref h0), (1, .int x0), (2, .int x1), (3, .int x2), (4, .ref ou)]) hx hb dL_count_15 hl (by decide) rfl (fun ls hl => ?_)
  refine lv_iconst (v := nI 1) hx hb dL_count_17 (by decide) ?_
  exact vx_ret (fin_i hx hb hr hlocks hP hD hS rfl dL_count_18)
set_option maxHeartbeats 4000000 in
set_option maxRecDepth 100000 in
theorem w_L_count_b1 (l : Launch) (hlst : l.stackTraces = false) (D : va_G) (cI cJ cZ : ClassId) (h0 : Nat) (ai : Nat) (pu : Nat) (pa : Nat) (ga : Nat) (sc : Nat) (hi : Nat) (gr : Nat) (me : Nat) (dp : Nat) (up : Bool) (mi : Nat) (ru : Nat) (wp : Int64) (wl : Int64) (ki : Nat) (x1 : Int32) (x2 : Int32) (ou : Nat) (hki : ki < 20) (hbad : x1.toInt < 0 ∨ 10 ≤ x1.toInt) (sz : Nat) : vx_Met l yL_count wsL_count ({ frames := 8, cells := 1, slots := 6, locals := 125 } : Room) (va_Pc [.ref h0, .int (nI ki), .int x1, .int x2, .ref ou] (xPre D cI cJ cZ [(h0, .inr (5, [.ref ai, .ref pu, .ref pa, .ref ga, .ref sc, .ref hi, .ref gr, .int (nI me), .int (nI dp), .int (bI up), .int (nI mi), .int (nI ru), .long wp, .long wl]))] sz)) (Qi9 D (va_A [(h0, .inr (5, [.ref ai, .ref pu, .ref pa, .ref ga, .ref sc, .ref hi, .ref gr, .int (nI me), .int (nI dp), .int (bI up), .int (nI mi), .int (nI ru), .long wp, .long wl]))] sz) [(h0, .inr (5, [.ref ai, .ref pu, .ref pa, .ref ga, .ref sc, .ref hi, .ref gr, .int (nI me), .int (nI dp), .int (bI up), .int (nI mi), .int (nI ru), .long wp, .long wl]))] (nI 1)) XN 1 6 (va_A [(h0, .inr (5, [.ref ai, .ref pu, .ref pa, .ref ga, .ref sc, .ref hi, .ref gr, .int (nI me), .int (nI dp), .int (bI up), .int (nI mi), .int (nI ru), .long wp, .long wl]))] sz) := by
  refine vx_ofWH (hh := [(0, 12, 15, 13), (0, 12, 19, 15)]) (cc := cL_count) (maxL := 6) (ret := (some .int)) (by decide) rfl ?_
  intro p e s m args below meth c s₁ B hml hv
  obtain ⟨hargs, ⟨hsz, hP, hT, hD0⟩, hST, hSQ⟩ := hv
  have hx := B.exec
  have hb := B.bytes
  have hr := B.returns
  have hts := atoms_spec (ws := wsL_count) B.pre
  have htab := vx_table (x := yL_count) B (hts _ List.mem_cons_self)
  have hown : s.vm.findClass RL = some m.cls := findClass_of_methodNamed B.named
  have hlocks := B.notSynchronized
  subst hsz
  have hK := hT.1
  have hD := hD0.self (sz := s.heap.size)
  generalize hAe : va_A [(h0, .inr (5, [.ref ai, .ref pu, .ref pa, .ref ga, .ref sc, .ref hi, .ref gr, .int (nI me), .int (nI dp), .int (bI up), .int (nI mi), .int (nI ru), .long wp, .long wl]))] s.heap.size = A at hD hSQ ⊢
  have hA : ∀ q : Nat, s.heap.size ≤ q → A q := fun q h => by rw [← hAe]; exact Or.inr h
  obtain ⟨H, hHe⟩ : ∃ H : Heap, H = s.heap := ⟨_, rfl⟩
  have hS : va_S A s.heap H [] := by rw [hHe]; exact va_S.rf
  rw [← hHe] at hP
  suffices K0 : W p l e (headSpec wsL_count ({ frames := 8, cells := 1, slots := 6, locals := 125 } : Room)).room s m args below meth c H [] 0 0 (vx_MQ below (Qi9 D A [(h0, .inr (5, [.ref ai, .ref pu, .ref pa, .ref ga, .ref sc, .ref hi, .ref gr, .int (nI me), .int (nI dp), .int (bI up), .int (nI mi), .int (nI ru), .long wp, .long wl]))] (nI 1)) XN args s 1 6 A) (entryFrame m args 6) by rw [hHe] at K0; exact K0
  refine W.eq (g2 := entryFrame m ([.ref h0, .int (nI ki), .int x1, .int x2, .ref ou] : List Value).toArray 6) (by rw [hargs]) ?_
  have hl := lv_entry ([.ref h0, .int (nI ki), .int x1, .int x2, .ref ou]) (n := 6) (Nat.le_of_ble_eq_true rfl)
  rw [lg_entry_eq]
  generalize (lg_sl ([.ref h0, .int (nI ki), .int x1, .int x2, .ref ou]) ++ List.replicate (6 - (lg_sl ([.ref h0, .int (nI ki), .int x1, .int x2, .ref ou])).length) Slot.unset).toArray = ls at hl ⊢
  have hl : lv_has ls 6 [(0, .ref h0), (1, .int (nI ki)), (2, .int x1), (3, .int x2), (4, .ref ou)] := hl
  generalize ([] : List Loc) = locs at hS ⊢
  refine lv_aload hx hb dL_count_0 (lv_at hl 4 rfl) ?_
  refine lv_iconst (v := nI 0) hx hb dL_count_2 (by decide) ?_
  refine lv_aload_n hx hb dL_count_3 rfl (lv_at hl 0 rfl) ?_
  refine lv_iload_n hx hb dL_count_4 rfl (lv_at hl 1 rfl) ?_
  refine lv_iload_n hx hb dL_count_5 rfl (lv_at hl 2 rfl) ?_
  refine lv_iload_n hx hb dL_count_6 rfl (lv_at hl 3 rfl) ?_
  refine wk_i (wc := [(h0, .inr (5, [.ref ai, .ref pu, .ref pa, .ref ga, .ref sc, .ref hi, .ref gr, .int (nI me), .int (nI dp), .int (bI up), .int (nI mi), .int (nI ru), .long wp, .long wl]))]) (own := RL) (E := "java/lang/IndexOutOfBoundsException") hown (tableOf []) ⟨0, 12, 15, 13⟩ (tableOf [(0, 12, 19, 15)]) (htab.trans rfl) (fun z hz => by cases hz) (by decide) (by decide) (hts (.classLink RL 13 "java/lang/IndexOutOfBoundsException") (by decide +kernel)) hST.2.1.1.1 hP hD hS hA [0] rfl rfl (vx_runV (As := [.int (nI ki), .int x1, .int x2]) (rest := [.int (nI 0), .ref ou]) ⟨hx, hb, hml, hown, hts⟩ (x_X5_count_1 l hlst D cI cJ cZ h0 ai pu pa ga sc hi gr me dp up mi ru wp wl ki x1 x2 hki hbad H.size) (cwV 3 hts gL_count_X5_count rfl rfl rfl (by decide +kernel) ⟨Nat.le_of_ble_eq_true rfl, Nat.le_of_ble_eq_true rfl⟩) (pxV (wc := [(h0, .inr (5, [.ref ai, .ref pu, .ref pa, .ref ga, .ref sc, .ref hi, .ref gr, .int (nI me), .int (nI dp), .int (bI up), .int (nI mi), .int (nI ru), .long wp, .long wl]))]) hT hP hD hA [0] rfl rfl 0 rfl rfl hST hSQ hS) rfl rfl hl.1 rfl (lv_room (Nat.le_of_ble_eq_true rfl)) dL_count_7 ⟨Nat.le_of_ble_eq_true rfl, Nat.le_of_ble_eq_true rfl⟩) (fun q9 H locs hP hD hS => ?_)
  refine lv_astore (lv' := [(5, .ref q9), (0, .ref h0), (1, .int (nI ki)), (2, .int x1), (3, .int x2), (4, .ref ou)]) hx hb dL_count_15 hl (by decide) rfl (fun ls hl => ?_)
  refine lv_iconst (v := nI 1) hx hb dL_count_17 (by decide) ?_
  exact vx_ret (fin_i hx hb hr hlocks hP hD hS rfl dL_count_18)
set_option maxHeartbeats 4000000 in
set_option maxRecDepth 100000 in
theorem w_L_count_b2 (l : Launch) (hlst : l.stackTraces = false) (D : va_G) (cI cJ cZ : ClassId) (h0 : Nat) (ai : Nat) (pu : Nat) (pa : Nat) (ga : Nat) (sc : Nat) (hi : Nat) (gr : Nat) (me : Nat) (dp : Nat) (up : Bool) (mi : Nat) (ru : Nat) (wp : Int64) (wl : Int64) (ki : Nat) (la : Nat) (x2 : Int32) (ou : Nat) (hki : ki < 20) (hla : la < 10) (hbad : x2.toInt < 1 ∨ 3 < x2.toInt) (sz : Nat) : vx_Met l yL_count wsL_count ({ frames := 8, cells := 1, slots := 6, locals := 127 } : Room) (va_Pc [.ref h0, .int (nI ki), .int (nI la), .int x2, .ref ou] (xPre D cI cJ cZ [(h0, .inr (5, [.ref ai, .ref pu, .ref pa, .ref ga, .ref sc, .ref hi, .ref gr, .int (nI me), .int (nI dp), .int (bI up), .int (nI mi), .int (nI ru), .long wp, .long wl]))] sz)) (Qi9 D (va_A [(h0, .inr (5, [.ref ai, .ref pu, .ref pa, .ref ga, .ref sc, .ref hi, .ref gr, .int (nI me), .int (nI dp), .int (bI up), .int (nI mi), .int (nI ru), .long wp, .long wl]))] sz) [(h0, .inr (5, [.ref ai, .ref pu, .ref pa, .ref ga, .ref sc, .ref hi, .ref gr, .int (nI me), .int (nI dp), .int (bI up), .int (nI mi), .int (nI ru), .long wp, .long wl]))] (nI 2)) XN 1 6 (va_A [(h0, .inr (5, [.ref ai, .ref pu, .ref pa, .ref ga, .ref sc, .ref hi, .ref gr, .int (nI me), .int (nI dp), .int (bI up), .int (nI mi), .int (nI ru), .long wp, .long wl]))] sz) := by
  refine vx_ofWH (hh := [(0, 12, 15, 13), (0, 12, 19, 15)]) (cc := cL_count) (maxL := 6) (ret := (some .int)) (by decide) rfl ?_
  intro p e s m args below meth c s₁ B hml hv
  obtain ⟨hargs, ⟨hsz, hP, hT, hD0⟩, hST, hSQ⟩ := hv
  have hx := B.exec
  have hb := B.bytes
  have hr := B.returns
  have hts := atoms_spec (ws := wsL_count) B.pre
  have htab := vx_table (x := yL_count) B (hts _ List.mem_cons_self)
  have hown : s.vm.findClass RL = some m.cls := findClass_of_methodNamed B.named
  have hlocks := B.notSynchronized
  subst hsz
  have hK := hT.1
  have hD := hD0.self (sz := s.heap.size)
  generalize hAe : va_A [(h0, .inr (5, [.ref ai, .ref pu, .ref pa, .ref ga, .ref sc, .ref hi, .ref gr, .int (nI me), .int (nI dp), .int (bI up), .int (nI mi), .int (nI ru), .long wp, .long wl]))] s.heap.size = A at hD hSQ ⊢
  have hA : ∀ q : Nat, s.heap.size ≤ q → A q := fun q h => by rw [← hAe]; exact Or.inr h
  obtain ⟨H, hHe⟩ : ∃ H : Heap, H = s.heap := ⟨_, rfl⟩
  have hS : va_S A s.heap H [] := by rw [hHe]; exact va_S.rf
  rw [← hHe] at hP
  suffices K0 : W p l e (headSpec wsL_count ({ frames := 8, cells := 1, slots := 6, locals := 127 } : Room)).room s m args below meth c H [] 0 0 (vx_MQ below (Qi9 D A [(h0, .inr (5, [.ref ai, .ref pu, .ref pa, .ref ga, .ref sc, .ref hi, .ref gr, .int (nI me), .int (nI dp), .int (bI up), .int (nI mi), .int (nI ru), .long wp, .long wl]))] (nI 2)) XN args s 1 6 A) (entryFrame m args 6) by rw [hHe] at K0; exact K0
  refine W.eq (g2 := entryFrame m ([.ref h0, .int (nI ki), .int (nI la), .int x2, .ref ou] : List Value).toArray 6) (by rw [hargs]) ?_
  have hl := lv_entry ([.ref h0, .int (nI ki), .int (nI la), .int x2, .ref ou]) (n := 6) (Nat.le_of_ble_eq_true rfl)
  rw [lg_entry_eq]
  generalize (lg_sl ([.ref h0, .int (nI ki), .int (nI la), .int x2, .ref ou]) ++ List.replicate (6 - (lg_sl ([.ref h0, .int (nI ki), .int (nI la), .int x2, .ref ou])).length) Slot.unset).toArray = ls at hl ⊢
  have hl : lv_has ls 6 [(0, .ref h0), (1, .int (nI ki)), (2, .int (nI la)), (3, .int x2), (4, .ref ou)] := hl
  generalize ([] : List Loc) = locs at hS ⊢
  refine lv_aload hx hb dL_count_0 (lv_at hl 4 rfl) ?_
  refine lv_iconst (v := nI 0) hx hb dL_count_2 (by decide) ?_
  refine lv_aload_n hx hb dL_count_3 rfl (lv_at hl 0 rfl) ?_
  refine lv_iload_n hx hb dL_count_4 rfl (lv_at hl 1 rfl) ?_
  refine lv_iload_n hx hb dL_count_5 rfl (lv_at hl 2 rfl) ?_
  refine lv_iload_n hx hb dL_count_6 rfl (lv_at hl 3 rfl) ?_
  refine wk_i (wc := [(h0, .inr (5, [.ref ai, .ref pu, .ref pa, .ref ga, .ref sc, .ref hi, .ref gr, .int (nI me), .int (nI dp), .int (bI up), .int (nI mi), .int (nI ru), .long wp, .long wl]))]) (own := RL) (E := "java/lang/IllegalArgumentException") hown (tableOf [(0, 12, 15, 13)]) ⟨0, 12, 19, 15⟩ (tableOf []) (htab.trans rfl) (fun z hz => by rw [List.mem_singleton.mp hz]; exact (by exact Or.inr ⟨by decide, "java/lang/IndexOutOfBoundsException", hts (.classLink RL 13 "java/lang/IndexOutOfBoundsException") (by decide +kernel), hST.2.1.2.1⟩)) (by decide) (by decide) (hts (.classLink RL 15 "java/lang/IllegalArgumentException") (by decide +kernel)) hST.2.1.1.2.1 hP hD hS hA [0] rfl rfl (vx_runV (As := [.int (nI ki), .int (nI la), .int x2]) (rest := [.int (nI 0), .ref ou]) ⟨hx, hb, hml, hown, hts⟩ (x_X5_count_2 l hlst D cI cJ cZ h0 ai pu pa ga sc hi gr me dp up mi ru wp wl ki la x2 hki hla hbad H.size) (cwV 3 hts gL_count_X5_count rfl rfl rfl (by decide +kernel) ⟨Nat.le_of_ble_eq_true rfl, Nat.le_of_ble_eq_true rfl⟩) (pxV (wc := [(h0, .inr (5, [.ref ai, .ref pu, .ref pa, .ref ga, .ref sc, .ref hi, .ref gr, .int (nI me), .int (nI dp), .int (bI up), .int (nI mi), .int (nI ru), .long wp, .long wl]))]) hT hP hD hA [0] rfl rfl 0 rfl rfl hST hSQ hS) rfl rfl hl.1 rfl (lv_room (Nat.le_of_ble_eq_true rfl)) dL_count_7 ⟨Nat.le_of_ble_eq_true rfl, Nat.le_of_ble_eq_true rfl⟩) (fun q9 H locs hP hD hS => ?_)
  refine lv_astore (lv' := [(5, .ref q9), (0, .ref h0), (1, .int (nI ki)), (2, .int (nI la)), (3, .int x2), (4, .ref ou)]) hx hb dL_count_19 hl (by decide) rfl (fun ls hl => ?_)
  refine lv_iconst (v := nI 2) hx hb dL_count_21 (by decide) ?_
  exact vx_ret (fin_i hx hb hr hlocks hP hD hS rfl dL_count_22)
set_option maxHeartbeats 4000000 in
set_option maxRecDepth 100000 in
theorem w_L_phase_b0 (l : Launch) (hlst : l.stackTraces = false) (D : va_G) (cI cJ cZ : ClassId) (h0 : Nat) (ai : Nat) (pu : Nat) (pa : Nat) (ga : Nat) (sc : Nat) (hi : Nat) (gr : Nat) (me : Nat) (dp : Nat) (up : Bool) (mi : Nat) (ru : Nat) (wp : Int64) (wl : Int64) (x0 : Int32) (ou : Nat) (hbad : x0.toInt < 0 ∨ 10 ≤ x0.toInt) (sz : Nat) : vx_Met l yL_phase wsL_phase ({ frames := 8, cells := 1, slots := 6, locals := 123 } : Room) (va_Pc [.ref h0, .int x0, .ref ou] (xPre D cI cJ cZ [(h0, .inr (5, [.ref ai, .ref pu, .ref pa, .ref ga, .ref sc, .ref hi, .ref gr, .int (nI me), .int (nI dp), .int (bI up), .int (nI mi), .int (nI ru), .long wp, .long wl]))] sz)) (Qi9 D (va_A [(h0, .inr (5, [.ref ai, .ref pu, .ref pa, .ref ga, .ref sc, .ref hi, .ref gr, .int (nI me), .int (nI dp), .int (bI up), .int (nI mi), .int (nI ru), .long wp, .long wl]))] sz) [(h0, .inr (5, [.ref ai, .ref pu, .ref pa, .ref ga, .ref sc, .ref hi, .ref gr, .int (nI me), .int (nI dp), .int (bI up), .int (nI mi), .int (nI ru), .long wp, .long wl]))] (nI 1)) XN 1 6 (va_A [(h0, .inr (5, [.ref ai, .ref pu, .ref pa, .ref ga, .ref sc, .ref hi, .ref gr, .int (nI me), .int (nI dp), .int (bI up), .int (nI mi), .int (nI ru), .long wp, .long wl]))] sz) := by
  refine vx_ofWH (hh := [(0, 9, 12, 13)]) (cc := cL_phase) (maxL := 4) (ret := (some .int)) (by decide) rfl ?_
  intro p e s m args below meth c s₁ B hml hv
  obtain ⟨hargs, ⟨hsz, hP, hT, hD0⟩, hST, hSQ⟩ := hv
  have hx := B.exec
  have hb := B.bytes
  have hr := B.returns
  have hts := atoms_spec (ws := wsL_phase) B.pre
  have htab := vx_table (x := yL_phase) B (hts _ List.mem_cons_self)
  have hown : s.vm.findClass RL = some m.cls := findClass_of_methodNamed B.named
  have hlocks := B.notSynchronized
  subst hsz
  have hK := hT.1
  have hD := hD0.self (sz := s.heap.size)
  generalize hAe : va_A [(h0, .inr (5, [.ref ai, .ref pu, .ref pa, .ref ga, .ref sc, .ref hi, .ref gr, .int (nI me), .int (nI dp), .int (bI up), .int (nI mi), .int (nI ru), .long wp, .long wl]))] s.heap.size = A at hD hSQ ⊢
  have hA : ∀ q : Nat, s.heap.size ≤ q → A q := fun q h => by rw [← hAe]; exact Or.inr h
  obtain ⟨H, hHe⟩ : ∃ H : Heap, H = s.heap := ⟨_, rfl⟩
  have hS : va_S A s.heap H [] := by rw [hHe]; exact va_S.rf
  rw [← hHe] at hP
  suffices K0 : W p l e (headSpec wsL_phase ({ frames := 8, cells := 1, slots := 6, locals := 123 } : Room)).room s m args below meth c H [] 0 0 (vx_MQ below (Qi9 D A [(h0, .inr (5, [.ref ai, .ref pu, .ref pa, .ref ga, .ref sc, .ref hi, .ref gr, .int (nI me), .int (nI dp), .int (bI up), .int (nI mi), .int (nI ru), .long wp, .long wl]))] (nI 1)) XN args s 1 6 A) (entryFrame m args 4) by rw [hHe] at K0; exact K0
  refine W.eq (g2 := entryFrame m ([.ref h0, .int x0, .ref ou] : List Value).toArray 4) (by rw [hargs]) ?_
  have hl := lv_entry ([.ref h0, .int x0, .ref ou]) (n := 4) (Nat.le_of_ble_eq_true rfl)
  rw [lg_entry_eq]
  generalize (lg_sl ([.ref h0, .int x0, .ref ou]) ++ List.replicate (4 - (lg_sl ([.ref h0, .int x0, .ref ou])).length) Slot.unset).toArray = ls at hl ⊢
  have hl : lv_has ls 4 [(0, .ref h0), (1, .int x0), (2, .ref ou)] := hl
  generalize ([] : List Loc) = locs at hS ⊢
  refine lv_aload_n hx hb dL_phase_0 rfl (lv_at hl 2 rfl) ?_
  refine lv_iconst (v := nI 0) hx hb dL_phase_1 (by decide) ?_
  refine lv_aload_n hx hb dL_phase_2 rfl (lv_at hl 0 rfl) ?_
  refine lv_iload_n hx hb dL_phase_3 rfl (lv_at hl 1 rfl) ?_
  refine wk_i (wc := [(h0, .inr (5, [.ref ai, .ref pu, .ref pa, .ref ga, .ref sc, .ref hi, .ref gr, .int (nI me), .int (nI dp), .int (bI up), .int (nI mi), .int (nI ru), .long wp, .long wl]))]) (own := RL) (E := "java/lang/IndexOutOfBoundsException") hown (tableOf []) ⟨0, 9, 12, 13⟩ (tableOf []) (htab.trans rfl) (fun z hz => by cases hz) (by decide) (by decide) (hts (.classLink RL 13 "java/lang/IndexOutOfBoundsException") (by decide +kernel)) hST.2.1.1.1 hP hD hS hA [0] rfl rfl (vx_runV (As := [.int x0]) (rest := [.int (nI 0), .ref ou]) ⟨hx, hb, hml, hown, hts⟩ (x_X5_phase_0 l hlst D cI cJ cZ h0 ai pu pa ga sc hi gr me dp up mi ru wp wl x0 hbad H.size) (cwV 1 hts gL_phase_X5_phase rfl rfl rfl (by decide +kernel) ⟨Nat.le_of_ble_eq_true rfl, Nat.le_of_ble_eq_true rfl⟩) (pxV (wc := [(h0, .inr (5, [.ref ai, .ref pu, .ref pa, .ref ga, .ref sc, .ref hi, .ref gr, .int (nI me), .int (nI dp), .int (bI up), .int (nI mi), .int (nI ru), .long wp, .long wl]))]) hT hP hD hA [0] rfl rfl 0 rfl rfl hST hSQ hS) rfl rfl hl.1 rfl (lv_room (Nat.le_of_ble_eq_true rfl)) dL_phase_4 ⟨Nat.le_of_ble_eq_true rfl, Nat.le_of_ble_eq_true rfl⟩) (fun q9 H locs hP hD hS => ?_)
  refine lv_astore_n (lv' := [(3, .ref q9), (0, .ref h0), (1, .int x0), (2, .ref ou)]) hx hb dL_phase_12 rfl hl (by decide) rfl (fun ls hl => ?_)
  refine lv_iconst (v := nI 1) hx hb dL_phase_13 (by decide) ?_
  exact vx_ret (fin_i hx hb hr hlocks hP hD hS rfl dL_phase_14)
set_option maxHeartbeats 4000000 in
set_option maxRecDepth 100000 in
theorem w_L_echo_b0 (l : Launch) (hlst : l.stackTraces = false) (D : va_G) (cI cJ cZ : ClassId) (h0 : Nat) (ai : Nat) (pu : Nat) (pa : Nat) (ga : Nat) (sc : Nat) (hi : Nat) (gr : Nat) (me : Nat) (dp : Nat) (up : Bool) (mi : Nat) (ru : Nat) (wp : Int64) (wl : Int64) (x0 : Int32) (x1 : Int32) (ou : Nat) (hbad : x0.toInt < 0 ∨ 20 ≤ x0.toInt) (sz : Nat) : vx_Met l yL_echo wsL_echo ({ frames := 8, cells := 1, slots := 6, locals := 124 } : Room) (va_Pc [.ref h0, .int x0, .int x1, .ref ou] (xPre D cI cJ cZ [(h0, .inr (5, [.ref ai, .ref pu, .ref pa, .ref ga, .ref sc, .ref hi, .ref gr, .int (nI me), .int (nI dp), .int (bI up), .int (nI mi), .int (nI ru), .long wp, .long wl]))] sz)) (Qi9 D (va_A [(h0, .inr (5, [.ref ai, .ref pu, .ref pa, .ref ga, .ref sc, .ref hi, .ref gr, .int (nI me), .int (nI dp), .int (bI up), .int (nI mi), .int (nI ru), .long wp, .long wl]))] sz) [(h0, .inr (5, [.ref ai, .ref pu, .ref pa, .ref ga, .ref sc, .ref hi, .ref gr, .int (nI me), .int (nI dp), .int (bI up), .int (nI mi), .int (nI ru), .long wp, .long wl]))] (nI 1)) XN 1 6 (va_A [(h0, .inr (5, [.ref ai, .ref pu, .ref pa, .ref ga, .ref sc, .ref hi, .ref gr, .int (nI me), .int (nI dp), .int (bI up), .int (nI mi), .int (nI ru), .long wp, .long wl]))] sz) := by
  refine vx_ofWH (hh := [(0, 9, 12, 13), (0, 9, 16, 15)]) (cc := cL_echo) (maxL := 5) (ret := (some .int)) (by decide) rfl ?_
  intro p e s m args below meth c s₁ B hml hv
  obtain ⟨hargs, ⟨hsz, hP, hT, hD0⟩, hST, hSQ⟩ := hv
  have hx := B.exec
  have hb := B.bytes
  have hr := B.returns
  have hts := atoms_spec (ws := wsL_echo) B.pre
  have htab := vx_table (x := yL_echo) B (hts _ List.mem_cons_self)
  have hown : s.vm.findClass RL = some m.cls := findClass_of_methodNamed B.named
  have hlocks := B.notSynchronized
  subst hsz
  have hK := hT.1
  have hD := hD0.self (sz := s.heap.size)
  generalize hAe : va_A [(h0, .inr (5, [.ref ai, .ref pu, .ref pa, .ref ga, .ref sc, .ref hi, .ref gr, .int (nI me), .int (nI dp), .int (bI up), .int (nI mi), .int (nI ru), .long wp, .long wl]))] s.heap.size = A at hD hSQ ⊢
  have hA : ∀ q : Nat, s.heap.size ≤ q → A q := fun q h => by rw [← hAe]; exact Or.inr h
  obtain ⟨H, hHe⟩ : ∃ H : Heap, H = s.heap := ⟨_, rfl⟩
  have hS : va_S A s.heap H [] := by rw [hHe]; exact va_S.rf
  rw [← hHe] at hP
  suffices K0 : W p l e (headSpec wsL_echo ({ frames := 8, cells := 1, slots := 6, locals := 124 } : Room)).room s m args below meth c H [] 0 0 (vx_MQ below (Qi9 D A [(h0, .inr (5, [.ref ai, .ref pu, .ref pa, .ref ga, .ref sc, .ref hi, .ref gr, .int (nI me), .int (nI dp), .int (bI up), .int (nI mi), .int (nI ru), .long wp, .long wl]))] (nI 1)) XN args s 1 6 A) (entryFrame m args 5) by rw [hHe] at K0; exact K0
  refine W.eq (g2 := entryFrame m ([.ref h0, .int x0, .int x1, .ref ou] : List Value).toArray 5) (by rw [hargs]) ?_
  have hl := lv_entry ([.ref h0, .int x0, .int x1, .ref ou]) (n := 5) (Nat.le_of_ble_eq_true rfl)
  rw [lg_entry_eq]
  generalize (lg_sl ([.ref h0, .int x0, .int x1, .ref ou]) ++ List.replicate (5 - (lg_sl ([.ref h0, .int x0, .int x1, .ref ou])).length) Slot.unset).toArray = ls at hl ⊢
  have hl : lv_has ls 5 [(0, .ref h0), (1, .int x0), (2, .int x1), (3, .ref ou)] := hl
  generalize ([] : List Loc) = locs at hS ⊢
  refine lv_aload_n hx hb dL_echo_0 rfl (lv_at hl 3 rfl) ?_
  refine lv_iconst (v := nI 0) hx hb dL_echo_1 (by decide) ?_
  refine lv_aload_n hx hb dL_echo_2 rfl (lv_at hl 0 rfl) ?_
  refine lv_iload_n hx hb dL_echo_3 rfl (lv_at hl 1 rfl) ?_
  refine lv_iload_n hx hb dL_echo_4 rfl (lv_at hl 2 rfl) ?_
  refine wk_l (wc := [(h0, .inr (5, [.ref ai, .ref pu, .ref pa, .ref ga, .ref sc, .ref hi, .ref gr, .int (nI me), .int (nI dp), .int (bI up), .int (nI mi), .int (nI ru), .long wp, .long wl]))]) (own := RL) (E := "java/lang/IndexOutOfBoundsException") hown (tableOf []) ⟨0, 9, 12, 13⟩ (tableOf [(0, 9, 16, 15)]) (htab.trans rfl) (fun z hz => by cases hz) (by decide) (by decide) (hts (.classLink RL 13 "java/lang/IndexOutOfBoundsException") (by decide +kernel)) hST.2.1.1.1 hP hD hS hA [0] rfl rfl (vx_runV (As := [.int x0, .int x1]) (rest := [.int (nI 0), .ref ou]) ⟨hx, hb, hml, hown, hts⟩ (x_X5_echo_0 l hlst D cI cJ cZ h0 ai pu pa ga sc hi gr me dp up mi ru wp wl x0 x1 hbad H.size) (cwV 2 hts gL_echo_X5_echo rfl rfl rfl (by decide +kernel) ⟨Nat.le_of_ble_eq_true rfl, Nat.le_of_ble_eq_true rfl⟩) (pxV (wc := [(h0, .inr (5, [.ref ai, .ref pu, .ref pa, .ref ga, .ref sc, .ref hi, .ref gr, .int (nI me), .int (nI dp), .int (bI up), .int (nI mi), .int (nI ru), .long wp, .long wl]))]) hT hP hD hA [0] rfl rfl 0 rfl rfl hST hSQ hS) rfl rfl hl.1 rfl (lv_room (Nat.le_of_ble_eq_true rfl)) dL_echo_5 ⟨Nat.le_of_ble_eq_true rfl, Nat.le_of_ble_eq_true rfl⟩) (fun q9 H locs hP hD hS => ?_)
  refine lv_astore (lv' := [(4, .ref q9), (0, .ref h0), (1, .int x0), (2, .int x1), (3, .ref ou)]) hx hb dL_echo_12 hl (by decide) rfl (fun ls hl => ?_)
  refine lv_iconst (v := nI 1) hx hb dL_echo_14 (by decide) ?_
  exact vx_ret (fin_i hx hb hr hlocks hP hD hS rfl dL_echo_15)
set_option maxHeartbeats 4000000 in
set_option maxRecDepth 100000 in
theorem w_L_echo_b1 (l : Launch) (hlst : l.stackTraces = false) (D : va_G) (cI cJ cZ : ClassId) (h0 : Nat) (ai : Nat) (pu : Nat) (pa : Nat) (ga : Nat) (sc : Nat) (hi : Nat) (gr : Nat) (me : Nat) (dp : Nat) (up : Bool) (mi : Nat) (ru : Nat) (wp : Int64) (wl : Int64) (ki : Nat) (x1 : Int32) (ou : Nat) (hki : ki < 20) (hbad : x1.toInt < 0 ∨ 3 < x1.toInt) (sz : Nat) : vx_Met l yL_echo wsL_echo ({ frames := 8, cells := 1, slots := 6, locals := 126 } : Room) (va_Pc [.ref h0, .int (nI ki), .int x1, .ref ou] (xPre D cI cJ cZ [(h0, .inr (5, [.ref ai, .ref pu, .ref pa, .ref ga, .ref sc, .ref hi, .ref gr, .int (nI me), .int (nI dp), .int (bI up), .int (nI mi), .int (nI ru), .long wp, .long wl]))] sz)) (Qi9 D (va_A [(h0, .inr (5, [.ref ai, .ref pu, .ref pa, .ref ga, .ref sc, .ref hi, .ref gr, .int (nI me), .int (nI dp), .int (bI up), .int (nI mi), .int (nI ru), .long wp, .long wl]))] sz) [(h0, .inr (5, [.ref ai, .ref pu, .ref pa, .ref ga, .ref sc, .ref hi, .ref gr, .int (nI me), .int (nI dp), .int (bI up), .int (nI mi), .int (nI ru), .long wp, .long wl]))] (nI 2)) XN 1 6 (va_A [(h0, .inr (5, [.ref ai, .ref pu, .ref pa, .ref ga, .ref sc, .ref hi, .ref gr, .int (nI me), .int (nI dp), .int (bI up), .int (nI mi), .int (nI ru), .long wp, .long wl]))] sz) := by
  refine vx_ofWH (hh := [(0, 9, 12, 13), (0, 9, 16, 15)]) (cc := cL_echo) (maxL := 5) (ret := (some .int)) (by decide) rfl ?_
  intro p e s m args below meth c s₁ B hml hv
  obtain ⟨hargs, ⟨hsz, hP, hT, hD0⟩, hST, hSQ⟩ := hv
  have hx := B.exec
  have hb := B.bytes
  have hr := B.returns
  have hts := atoms_spec (ws := wsL_echo) B.pre
  have htab := vx_table (x := yL_echo) B (hts _ List.mem_cons_self)
  have hown : s.vm.findClass RL = some m.cls := findClass_of_methodNamed B.named
  have hlocks := B.notSynchronized
  subst hsz
  have hK := hT.1
  have hD := hD0.self (sz := s.heap.size)
  generalize hAe : va_A [(h0, .inr (5, [.ref ai, .ref pu, .ref pa, .ref ga, .ref sc, .ref hi, .ref gr, .int (nI me), .int (nI dp), .int (bI up), .int (nI mi), .int (nI ru), .long wp, .long wl]))] s.heap.size = A at hD hSQ ⊢
  have hA : ∀ q : Nat, s.heap.size ≤ q → A q := fun q h => by rw [← hAe]; exact Or.inr h
  obtain ⟨H, hHe⟩ : ∃ H : Heap, H = s.heap := ⟨_, rfl⟩
  have hS : va_S A s.heap H [] := by rw [hHe]; exact va_S.rf
  rw [← hHe] at hP
  suffices K0 : W p l e (headSpec wsL_echo ({ frames := 8, cells := 1, slots := 6, locals := 126 } : Room)).room s m args below meth c H [] 0 0 (vx_MQ below (Qi9 D A [(h0, .inr (5, [.ref ai, .ref pu, .ref pa, .ref ga, .ref sc, .ref hi, .ref gr, .int (nI me), .int (nI dp), .int (bI up), .int (nI mi), .int (nI ru), .long wp, .long wl]))] (nI 2)) XN args s 1 6 A) (entryFrame m args 5) by rw [hHe] at K0; exact K0
  refine W.eq (g2 := entryFrame m ([.ref h0, .int (nI ki), .int x1, .ref ou] : List Value).toArray 5) (by rw [hargs]) ?_
  have hl := lv_entry ([.ref h0, .int (nI ki), .int x1, .ref ou]) (n := 5) (Nat.le_of_ble_eq_true rfl)
  rw [lg_entry_eq]
  generalize (lg_sl ([.ref h0, .int (nI ki), .int x1, .ref ou]) ++ List.replicate (5 - (lg_sl ([.ref h0, .int (nI ki), .int x1, .ref ou])).length) Slot.unset).toArray = ls at hl ⊢
  have hl : lv_has ls 5 [(0, .ref h0), (1, .int (nI ki)), (2, .int x1), (3, .ref ou)] := hl
  generalize ([] : List Loc) = locs at hS ⊢
  refine lv_aload_n hx hb dL_echo_0 rfl (lv_at hl 3 rfl) ?_
  refine lv_iconst (v := nI 0) hx hb dL_echo_1 (by decide) ?_
  refine lv_aload_n hx hb dL_echo_2 rfl (lv_at hl 0 rfl) ?_
  refine lv_iload_n hx hb dL_echo_3 rfl (lv_at hl 1 rfl) ?_
  refine lv_iload_n hx hb dL_echo_4 rfl (lv_at hl 2 rfl) ?_
  refine wk_l (wc := [(h0, .inr (5, [.ref ai, .ref pu, .ref pa, .ref ga, .ref sc, .ref hi, .ref gr, .int (nI me), .int (nI dp), .int (bI up), .int (nI mi), .int (nI ru), .long wp, .long wl]))]) (own := RL) (E := "java/lang/IllegalArgumentException") hown (tableOf [(0, 9, 12, 13)]) ⟨0, 9, 16, 15⟩ (tableOf []) (htab.trans rfl) (fun z hz => by rw [List.mem_singleton.mp hz]; exact (by exact Or.inr ⟨by decide, "java/lang/IndexOutOfBoundsException", hts (.classLink RL 13 "java/lang/IndexOutOfBoundsException") (by decide +kernel), hST.2.1.2.1⟩)) (by decide) (by decide) (hts (.classLink RL 15 "java/lang/IllegalArgumentException") (by decide +kernel)) hST.2.1.1.2.1 hP hD hS hA [0] rfl rfl (vx_runV (As := [.int (nI ki), .int x1]) (rest := [.int (nI 0), .ref ou]) ⟨hx, hb, hml, hown, hts⟩ (x_X5_echo_1 l hlst D cI cJ cZ h0 ai pu pa ga sc hi gr me dp up mi ru wp wl ki x1 hki hbad H.size) (cwV 2 hts gL_echo_X5_echo rfl rfl rfl (by decide +kernel) ⟨Nat.le_of_ble_eq_true rfl, Nat.le_of_ble_eq_true rfl⟩) (pxV (wc := [(h0, .inr (5, [.ref ai, .ref pu, .ref pa, .ref ga, .ref sc, .ref hi, .ref gr, .int (nI me), .int (nI dp), .int (bI up), .int (nI mi), .int (nI ru), .long wp, .long wl]))]) hT hP hD hA [0] rfl rfl 0 rfl rfl hST hSQ hS) rfl rfl hl.1 rfl (lv_room (Nat.le_of_ble_eq_true rfl)) dL_echo_5 ⟨Nat.le_of_ble_eq_true rfl, Nat.le_of_ble_eq_true rfl⟩) (fun q9 H locs hP hD hS => ?_)
  refine lv_astore (lv' := [(4, .ref q9), (0, .ref h0), (1, .int (nI ki)), (2, .int x1), (3, .ref ou)]) hx hb dL_echo_16 hl (by decide) rfl (fun ls hl => ?_)
  refine lv_iconst (v := nI 2) hx hb dL_echo_18 (by decide) ?_
  exact vx_ret (fin_i hx hb hr hlocks hP hD hS rfl dL_echo_19)
set_option maxHeartbeats 4000000 in
set_option maxRecDepth 100000 in
theorem w_L_seen_b0 (l : Launch) (hlst : l.stackTraces = false) (D : va_G) (cI cJ cZ : ClassId) (h0 : Nat) (ai : Nat) (pu : Nat) (pa : Nat) (ga : Nat) (sc : Nat) (hi : Nat) (gr : Nat) (me : Nat) (dp : Nat) (up : Bool) (mi : Nat) (ru : Nat) (wp : Int64) (wl : Int64) (x0 : Int32) (x1 : Int32) (ou : Nat) (hbad : x0.toInt < 0 ∨ 20 ≤ x0.toInt) (sz : Nat) : vx_Met l yL_seen wsL_seen ({ frames := 8, cells := 1, slots := 6, locals := 124 } : Room) (va_Pc [.ref h0, .int x0, .int x1, .ref ou] (xPre D cI cJ cZ [(h0, .inr (5, [.ref ai, .ref pu, .ref pa, .ref ga, .ref sc, .ref hi, .ref gr, .int (nI me), .int (nI dp), .int (bI up), .int (nI mi), .int (nI ru), .long wp, .long wl]))] sz)) (Qi9 D (va_A [(h0, .inr (5, [.ref ai, .ref pu, .ref pa, .ref ga, .ref sc, .ref hi, .ref gr, .int (nI me), .int (nI dp), .int (bI up), .int (nI mi), .int (nI ru), .long wp, .long wl]))] sz) [(h0, .inr (5, [.ref ai, .ref pu, .ref pa, .ref ga, .ref sc, .ref hi, .ref gr, .int (nI me), .int (nI dp), .int (bI up), .int (nI mi), .int (nI ru), .long wp, .long wl]))] (nI 1)) XN 1 6 (va_A [(h0, .inr (5, [.ref ai, .ref pu, .ref pa, .ref ga, .ref sc, .ref hi, .ref gr, .int (nI me), .int (nI dp), .int (bI up), .int (nI mi), .int (nI ru), .long wp, .long wl]))] sz) := by
  refine vx_ofWH (hh := [(0, 9, 12, 13), (0, 9, 16, 15)]) (cc := cL_seen) (maxL := 5) (ret := (some .int)) (by decide) rfl ?_
  intro p e s m args below meth c s₁ B hml hv
  obtain ⟨hargs, ⟨hsz, hP, hT, hD0⟩, hST, hSQ⟩ := hv
  have hx := B.exec
  have hb := B.bytes
  have hr := B.returns
  have hts := atoms_spec (ws := wsL_seen) B.pre
  have htab := vx_table (x := yL_seen) B (hts _ List.mem_cons_self)
  have hown : s.vm.findClass RL = some m.cls := findClass_of_methodNamed B.named
  have hlocks := B.notSynchronized
  subst hsz
  have hK := hT.1
  have hD := hD0.self (sz := s.heap.size)
  generalize hAe : va_A [(h0, .inr (5, [.ref ai, .ref pu, .ref pa, .ref ga, .ref sc, .ref hi, .ref gr, .int (nI me), .int (nI dp), .int (bI up), .int (nI mi), .int (nI ru), .long wp, .long wl]))] s.heap.size = A at hD hSQ ⊢
  have hA : ∀ q : Nat, s.heap.size ≤ q → A q := fun q h => by rw [← hAe]; exact Or.inr h
  obtain ⟨H, hHe⟩ : ∃ H : Heap, H = s.heap := ⟨_, rfl⟩
  have hS : va_S A s.heap H [] := by rw [hHe]; exact va_S.rf
  rw [← hHe] at hP
  suffices K0 : W p l e (headSpec wsL_seen ({ frames := 8, cells := 1, slots := 6, locals := 124 } : Room)).room s m args below meth c H [] 0 0 (vx_MQ below (Qi9 D A [(h0, .inr (5, [.ref ai, .ref pu, .ref pa, .ref ga, .ref sc, .ref hi, .ref gr, .int (nI me), .int (nI dp), .int (bI up), .int (nI mi), .int (nI ru), .long wp, .long wl]))] (nI 1)) XN args s 1 6 A) (entryFrame m args 5) by rw [hHe] at K0; exact K0
  refine W.eq (g2 := entryFrame m ([.ref h0, .int x0, .int x1, .ref ou] : List Value).toArray 5) (by rw [hargs]) ?_
  have hl := lv_entry ([.ref h0, .int x0, .int x1, .ref ou]) (n := 5) (Nat.le_of_ble_eq_true rfl)
  rw [lg_entry_eq]
  generalize (lg_sl ([.ref h0, .int x0, .int x1, .ref ou]) ++ List.replicate (5 - (lg_sl ([.ref h0, .int x0, .int x1, .ref ou])).length) Slot.unset).toArray = ls at hl ⊢
  have hl : lv_has ls 5 [(0, .ref h0), (1, .int x0), (2, .int x1), (3, .ref ou)] := hl
  generalize ([] : List Loc) = locs at hS ⊢
  refine lv_aload_n hx hb dL_seen_0 rfl (lv_at hl 3 rfl) ?_
  refine lv_iconst (v := nI 0) hx hb dL_seen_1 (by decide) ?_
  refine lv_aload_n hx hb dL_seen_2 rfl (lv_at hl 0 rfl) ?_
  refine lv_iload_n hx hb dL_seen_3 rfl (lv_at hl 1 rfl) ?_
  refine lv_iload_n hx hb dL_seen_4 rfl (lv_at hl 2 rfl) ?_
  refine wk_l (wc := [(h0, .inr (5, [.ref ai, .ref pu, .ref pa, .ref ga, .ref sc, .ref hi, .ref gr, .int (nI me), .int (nI dp), .int (bI up), .int (nI mi), .int (nI ru), .long wp, .long wl]))]) (own := RL) (E := "java/lang/IndexOutOfBoundsException") hown (tableOf []) ⟨0, 9, 12, 13⟩ (tableOf [(0, 9, 16, 15)]) (htab.trans rfl) (fun z hz => by cases hz) (by decide) (by decide) (hts (.classLink RL 13 "java/lang/IndexOutOfBoundsException") (by decide +kernel)) hST.2.1.1.1 hP hD hS hA [0] rfl rfl (vx_runV (As := [.int x0, .int x1]) (rest := [.int (nI 0), .ref ou]) ⟨hx, hb, hml, hown, hts⟩ (x_X5_seen_0 l hlst D cI cJ cZ h0 ai pu pa ga sc hi gr me dp up mi ru wp wl x0 x1 hbad H.size) (cwV 2 hts gL_seen_X5_seen rfl rfl rfl (by decide +kernel) ⟨Nat.le_of_ble_eq_true rfl, Nat.le_of_ble_eq_true rfl⟩) (pxV (wc := [(h0, .inr (5, [.ref ai, .ref pu, .ref pa, .ref ga, .ref sc, .ref hi, .ref gr, .int (nI me), .int (nI dp), .int (bI up), .int (nI mi), .int (nI ru), .long wp, .long wl]))]) hT hP hD hA [0] rfl rfl 0 rfl rfl hST hSQ hS) rfl rfl hl.1 rfl (lv_room (Nat.le_of_ble_eq_true rfl)) dL_seen_5 ⟨Nat.le_of_ble_eq_true rfl, Nat.le_of_ble_eq_true rfl⟩) (fun q9 H locs hP hD hS => ?_)
  refine lv_astore (lv' := [(4, .ref q9), (0, .ref h0), (1, .int x0), (2, .int x1), (3, .ref ou)]) hx hb dL_seen_12 hl (by decide) rfl (fun ls hl => ?_)
  refine lv_iconst (v := nI 1) hx hb dL_seen_14 (by decide) ?_
  exact vx_ret (fin_i hx hb hr hlocks hP hD hS rfl dL_seen_15)
set_option maxHeartbeats 4000000 in
set_option maxRecDepth 100000 in
theorem w_L_seen_b1 (l : Launch) (hlst : l.stackTraces = false) (D : va_G) (cI cJ cZ : ClassId) (h0 : Nat) (ai : Nat) (pu : Nat) (pa : Nat) (ga : Nat) (sc : Nat) (hi : Nat) (gr : Nat) (me : Nat) (dp : Nat) (up : Bool) (mi : Nat) (ru : Nat) (wp : Int64) (wl : Int64) (ki : Nat) (x1 : Int32) (ou : Nat) (hki : ki < 20) (hbad : x1.toInt < 0 ∨ 3 < x1.toInt) (sz : Nat) : vx_Met l yL_seen wsL_seen ({ frames := 8, cells := 1, slots := 6, locals := 126 } : Room) (va_Pc [.ref h0, .int (nI ki), .int x1, .ref ou] (xPre D cI cJ cZ [(h0, .inr (5, [.ref ai, .ref pu, .ref pa, .ref ga, .ref sc, .ref hi, .ref gr, .int (nI me), .int (nI dp), .int (bI up), .int (nI mi), .int (nI ru), .long wp, .long wl]))] sz)) (Qi9 D (va_A [(h0, .inr (5, [.ref ai, .ref pu, .ref pa, .ref ga, .ref sc, .ref hi, .ref gr, .int (nI me), .int (nI dp), .int (bI up), .int (nI mi), .int (nI ru), .long wp, .long wl]))] sz) [(h0, .inr (5, [.ref ai, .ref pu, .ref pa, .ref ga, .ref sc, .ref hi, .ref gr, .int (nI me), .int (nI dp), .int (bI up), .int (nI mi), .int (nI ru), .long wp, .long wl]))] (nI 2)) XN 1 6 (va_A [(h0, .inr (5, [.ref ai, .ref pu, .ref pa, .ref ga, .ref sc, .ref hi, .ref gr, .int (nI me), .int (nI dp), .int (bI up), .int (nI mi), .int (nI ru), .long wp, .long wl]))] sz) := by
  refine vx_ofWH (hh := [(0, 9, 12, 13), (0, 9, 16, 15)]) (cc := cL_seen) (maxL := 5) (ret := (some .int)) (by decide) rfl ?_
  intro p e s m args below meth c s₁ B hml hv
  obtain ⟨hargs, ⟨hsz, hP, hT, hD0⟩, hST, hSQ⟩ := hv
  have hx := B.exec
  have hb := B.bytes
  have hr := B.returns
  have hts := atoms_spec (ws := wsL_seen) B.pre
  have htab := vx_table (x := yL_seen) B (hts _ List.mem_cons_self)
  have hown : s.vm.findClass RL = some m.cls := findClass_of_methodNamed B.named
  have hlocks := B.notSynchronized
  subst hsz
  have hK := hT.1
  have hD := hD0.self (sz := s.heap.size)
  generalize hAe : va_A [(h0, .inr (5, [.ref ai, .ref pu, .ref pa, .ref ga, .ref sc, .ref hi, .ref gr, .int (nI me), .int (nI dp), .int (bI up), .int (nI mi), .int (nI ru), .long wp, .long wl]))] s.heap.size = A at hD hSQ ⊢
  have hA : ∀ q : Nat, s.heap.size ≤ q → A q := fun q h => by rw [← hAe]; exact Or.inr h
  obtain ⟨H, hHe⟩ : ∃ H : Heap, H = s.heap := ⟨_, rfl⟩
  have hS : va_S A s.heap H [] := by rw [hHe]; exact va_S.rf
  rw [← hHe] at hP
  suffices K0 : W p l e (headSpec wsL_seen ({ frames := 8, cells := 1, slots := 6, locals := 126 } : Room)).room s m args below meth c H [] 0 0 (vx_MQ below (Qi9 D A [(h0, .inr (5, [.ref ai, .ref pu, .ref pa, .ref ga, .ref sc, .ref hi, .ref gr, .int (nI me), .int (nI dp), .int (bI up), .int (nI mi), .int (nI ru), .long wp, .long wl]))] (nI 2)) XN args s 1 6 A) (entryFrame m args 5) by rw [hHe] at K0; exact K0
  refine W.eq (g2 := entryFrame m ([.ref h0, .int (nI ki), .int x1, .ref ou] : List Value).toArray 5) (by rw [hargs]) ?_
  have hl := lv_entry ([.ref h0, .int (nI ki), .int x1, .ref ou]) (n := 5) (Nat.le_of_ble_eq_true rfl)
  rw [lg_entry_eq]
  generalize (lg_sl ([.ref h0, .int (nI ki), .int x1, .ref ou]) ++ List.replicate (5 - (lg_sl ([.ref h0, .int (nI ki), .int x1, .ref ou])).length) Slot.unset).toArray = ls at hl ⊢
  have hl : lv_has ls 5 [(0, .ref h0), (1, .int (nI ki)), (2, .int x1), (3, .ref ou)] := hl
  generalize ([] : List Loc) = locs at hS ⊢
  refine lv_aload_n hx hb dL_seen_0 rfl (lv_at hl 3 rfl) ?_
  refine lv_iconst (v := nI 0) hx hb dL_seen_1 (by decide) ?_
  refine lv_aload_n hx hb dL_seen_2 rfl (lv_at hl 0 rfl) ?_
  refine lv_iload_n hx hb dL_seen_3 rfl (lv_at hl 1 rfl) ?_
  refine lv_iload_n hx hb dL_seen_4 rfl (lv_at hl 2 rfl) ?_
  refine wk_l (wc := [(h0, .inr (5, [.ref ai, .ref pu, .ref pa, .ref ga, .ref sc, .ref hi, .ref gr, .int (nI me), .int (nI dp), .int (bI up), .int (nI mi), .int (nI ru), .long wp, .long wl]))]) (own := RL) (E := "java/lang/IllegalArgumentException") hown (tableOf [(0, 9, 12, 13)]) ⟨0, 9, 16, 15⟩ (tableOf []) (htab.trans rfl) (fun z hz => by rw [List.mem_singleton.mp hz]; exact (by exact Or.inr ⟨by decide, "java/lang/IndexOutOfBoundsException", hts (.classLink RL 13 "java/lang/IndexOutOfBoundsException") (by decide +kernel), hST.2.1.2.1⟩)) (by decide) (by decide) (hts (.classLink RL 15 "java/lang/IllegalArgumentException") (by decide +kernel)) hST.2.1.1.2.1 hP hD hS hA [0] rfl rfl (vx_runV (As := [.int (nI ki), .int x1]) (rest := [.int (nI 0), .ref ou]) ⟨hx, hb, hml, hown, hts⟩ (x_X5_seen_1 l hlst D cI cJ cZ h0 ai pu pa ga sc hi gr me dp up mi ru wp wl ki x1 hki hbad H.size) (cwV 2 hts gL_seen_X5_seen rfl rfl rfl (by decide +kernel) ⟨Nat.le_of_ble_eq_true rfl, Nat.le_of_ble_eq_true rfl⟩) (pxV (wc := [(h0, .inr (5, [.ref ai, .ref pu, .ref pa, .ref ga, .ref sc, .ref hi, .ref gr, .int (nI me), .int (nI dp), .int (bI up), .int (nI mi), .int (nI ru), .long wp, .long wl]))]) hT hP hD hA [0] rfl rfl 0 rfl rfl hST hSQ hS) rfl rfl hl.1 rfl (lv_room (Nat.le_of_ble_eq_true rfl)) dL_seen_5 ⟨Nat.le_of_ble_eq_true rfl, Nat.le_of_ble_eq_true rfl⟩) (fun q9 H locs hP hD hS => ?_)
  refine lv_astore (lv' := [(4, .ref q9), (0, .ref h0), (1, .int (nI ki)), (2, .int x1), (3, .ref ou)]) hx hb dL_seen_16 hl (by decide) rfl (fun ls hl => ?_)
  refine lv_iconst (v := nI 2) hx hb dL_seen_18 (by decide) ?_
  exact vx_ret (fin_i hx hb hr hlocks hP hD hS rfl dL_seen_19)
set_option maxHeartbeats 4000000 in
set_option maxRecDepth 100000 in
theorem w_L_rain_b0 (l : Launch) (hlst : l.stackTraces = false) (D : va_G) (cI cJ cZ : ClassId) (h0 : Nat) (ai : Nat) (pu : Nat) (pa : Nat) (ga : Nat) (sc : Nat) (hi : Nat) (gr : Nat) (me : Nat) (dp : Nat) (up : Bool) (mi : Nat) (ru : Nat) (wp : Int64) (wl : Int64) (x0 : Int32) (ou : Nat) (hbad : x0.toInt < 0 ∨ 20 ≤ x0.toInt) (sz : Nat) : vx_Met l yL_rain wsL_rain ({ frames := 8, cells := 1, slots := 6, locals := 126 } : Room) (va_Pc [.ref h0, .int x0, .ref ou] (xPre D cI cJ cZ [(h0, .inr (5, [.ref ai, .ref pu, .ref pa, .ref ga, .ref sc, .ref hi, .ref gr, .int (nI me), .int (nI dp), .int (bI up), .int (nI mi), .int (nI ru), .long wp, .long wl]))] sz)) (Qi9 D (va_A [(h0, .inr (5, [.ref ai, .ref pu, .ref pa, .ref ga, .ref sc, .ref hi, .ref gr, .int (nI me), .int (nI dp), .int (bI up), .int (nI mi), .int (nI ru), .long wp, .long wl]))] sz) [(h0, .inr (5, [.ref ai, .ref pu, .ref pa, .ref ga, .ref sc, .ref hi, .ref gr, .int (nI me), .int (nI dp), .int (bI up), .int (nI mi), .int (nI ru), .long wp, .long wl]))] (nI 1)) XN 1 6 (va_A [(h0, .inr (5, [.ref ai, .ref pu, .ref pa, .ref ga, .ref sc, .ref hi, .ref gr, .int (nI me), .int (nI dp), .int (bI up), .int (nI mi), .int (nI ru), .long wp, .long wl]))] sz) := by
  refine vx_ofWH (hh := [(0, 8, 11, 13)]) (cc := cL_rain) (maxL := 4) (ret := (some .int)) (by decide) rfl ?_
  intro p e s m args below meth c s₁ B hml hv
  obtain ⟨hargs, ⟨hsz, hP, hT, hD0⟩, hST, hSQ⟩ := hv
  have hx := B.exec
  have hb := B.bytes
  have hr := B.returns
  have hts := atoms_spec (ws := wsL_rain) B.pre
  have htab := vx_table (x := yL_rain) B (hts _ List.mem_cons_self)
  have hown : s.vm.findClass RL = some m.cls := findClass_of_methodNamed B.named
  have hlocks := B.notSynchronized
  subst hsz
  have hK := hT.1
  have hD := hD0.self (sz := s.heap.size)
  generalize hAe : va_A [(h0, .inr (5, [.ref ai, .ref pu, .ref pa, .ref ga, .ref sc, .ref hi, .ref gr, .int (nI me), .int (nI dp), .int (bI up), .int (nI mi), .int (nI ru), .long wp, .long wl]))] s.heap.size = A at hD hSQ ⊢
  have hA : ∀ q : Nat, s.heap.size ≤ q → A q := fun q h => by rw [← hAe]; exact Or.inr h
  obtain ⟨H, hHe⟩ : ∃ H : Heap, H = s.heap := ⟨_, rfl⟩
  have hS : va_S A s.heap H [] := by rw [hHe]; exact va_S.rf
  rw [← hHe] at hP
  suffices K0 : W p l e (headSpec wsL_rain ({ frames := 8, cells := 1, slots := 6, locals := 126 } : Room)).room s m args below meth c H [] 0 0 (vx_MQ below (Qi9 D A [(h0, .inr (5, [.ref ai, .ref pu, .ref pa, .ref ga, .ref sc, .ref hi, .ref gr, .int (nI me), .int (nI dp), .int (bI up), .int (nI mi), .int (nI ru), .long wp, .long wl]))] (nI 1)) XN args s 1 6 A) (entryFrame m args 4) by rw [hHe] at K0; exact K0
  refine W.eq (g2 := entryFrame m ([.ref h0, .int x0, .ref ou] : List Value).toArray 4) (by rw [hargs]) ?_
  have hl := lv_entry ([.ref h0, .int x0, .ref ou]) (n := 4) (Nat.le_of_ble_eq_true rfl)
  rw [lg_entry_eq]
  generalize (lg_sl ([.ref h0, .int x0, .ref ou]) ++ List.replicate (4 - (lg_sl ([.ref h0, .int x0, .ref ou])).length) Slot.unset).toArray = ls at hl ⊢
  have hl : lv_has ls 4 [(0, .ref h0), (1, .int x0), (2, .ref ou)] := hl
  generalize ([] : List Loc) = locs at hS ⊢
  refine lv_aload_n hx hb dL_rain_0 rfl (lv_at hl 2 rfl) ?_
  refine lv_iconst (v := nI 0) hx hb dL_rain_1 (by decide) ?_
  refine lv_aload_n hx hb dL_rain_2 rfl (lv_at hl 0 rfl) ?_
  refine lv_iload_n hx hb dL_rain_3 rfl (lv_at hl 1 rfl) ?_
  refine wk_l (wc := [(h0, .inr (5, [.ref ai, .ref pu, .ref pa, .ref ga, .ref sc, .ref hi, .ref gr, .int (nI me), .int (nI dp), .int (bI up), .int (nI mi), .int (nI ru), .long wp, .long wl]))]) (own := RL) (E := "java/lang/IndexOutOfBoundsException") hown (tableOf []) ⟨0, 8, 11, 13⟩ (tableOf []) (htab.trans rfl) (fun z hz => by cases hz) (by decide) (by decide) (hts (.classLink RL 13 "java/lang/IndexOutOfBoundsException") (by decide +kernel)) hST.2.1.1.1 hP hD hS hA [0] rfl rfl (vx_runV (As := [.int x0]) (rest := [.int (nI 0), .ref ou]) ⟨hx, hb, hml, hown, hts⟩ (x_X5_rain_0 l hlst D cI cJ cZ h0 ai pu pa ga sc hi gr me dp up mi ru wp wl x0 hbad H.size) (cwV 1 hts gL_rain_X5_rain rfl rfl rfl (by decide +kernel) ⟨Nat.le_of_ble_eq_true rfl, Nat.le_of_ble_eq_true rfl⟩) (pxV (wc := [(h0, .inr (5, [.ref ai, .ref pu, .ref pa, .ref ga, .ref sc, .ref hi, .ref gr, .int (nI me), .int (nI dp), .int (bI up), .int (nI mi), .int (nI ru), .long wp, .long wl]))]) hT hP hD hA [0] rfl rfl 0 rfl rfl hST hSQ hS) rfl rfl hl.1 rfl (lv_room (Nat.le_of_ble_eq_true rfl)) dL_rain_4 ⟨Nat.le_of_ble_eq_true rfl, Nat.le_of_ble_eq_true rfl⟩) (fun q9 H locs hP hD hS => ?_)
  refine lv_astore_n (lv' := [(3, .ref q9), (0, .ref h0), (1, .int x0), (2, .ref ou)]) hx hb dL_rain_11 rfl hl (by decide) rfl (fun ls hl => ?_)
  refine lv_iconst (v := nI 1) hx hb dL_rain_12 (by decide) ?_
  exact vx_ret (fin_i hx hb hr hlocks hP hD hS rfl dL_rain_13)
set_option maxHeartbeats 4000000 in
set_option maxRecDepth 100000 in
theorem w_L_rainBy_b0 (l : Launch) (hlst : l.stackTraces = false) (D : va_G) (cI cJ cZ : ClassId) (h0 : Nat) (ai : Nat) (pu : Nat) (pa : Nat) (ga : Nat) (sc : Nat) (hi : Nat) (gr : Nat) (me : Nat) (dp : Nat) (up : Bool) (mi : Nat) (ru : Nat) (wp : Int64) (wl : Int64) (x0 : Int32) (x1 : Int32) (ou : Nat) (hbad : x0.toInt < 0 ∨ 20 ≤ x0.toInt) (sz : Nat) : vx_Met l yL_rainBy wsL_rainBy ({ frames := 8, cells := 1, slots := 6, locals := 127 } : Room) (va_Pc [.ref h0, .int x0, .int x1, .ref ou] (xPre D cI cJ cZ [(h0, .inr (5, [.ref ai, .ref pu, .ref pa, .ref ga, .ref sc, .ref hi, .ref gr, .int (nI me), .int (nI dp), .int (bI up), .int (nI mi), .int (nI ru), .long wp, .long wl]))] sz)) (Qi9 D (va_A [(h0, .inr (5, [.ref ai, .ref pu, .ref pa, .ref ga, .ref sc, .ref hi, .ref gr, .int (nI me), .int (nI dp), .int (bI up), .int (nI mi), .int (nI ru), .long wp, .long wl]))] sz) [(h0, .inr (5, [.ref ai, .ref pu, .ref pa, .ref ga, .ref sc, .ref hi, .ref gr, .int (nI me), .int (nI dp), .int (bI up), .int (nI mi), .int (nI ru), .long wp, .long wl]))] (nI 1)) XN 1 6 (va_A [(h0, .inr (5, [.ref ai, .ref pu, .ref pa, .ref ga, .ref sc, .ref hi, .ref gr, .int (nI me), .int (nI dp), .int (bI up), .int (nI mi), .int (nI ru), .long wp, .long wl]))] sz) := by
  refine vx_ofWH (hh := [(0, 9, 12, 13), (0, 9, 16, 15)]) (cc := cL_rainBy) (maxL := 5) (ret := (some .int)) (by decide) rfl ?_
  intro p e s m args below meth c s₁ B hml hv
  obtain ⟨hargs, ⟨hsz, hP, hT, hD0⟩, hST, hSQ⟩ := hv
  have hx := B.exec
  have hb := B.bytes
  have hr := B.returns
  have hts := atoms_spec (ws := wsL_rainBy) B.pre
  have htab := vx_table (x := yL_rainBy) B (hts _ List.mem_cons_self)
  have hown : s.vm.findClass RL = some m.cls := findClass_of_methodNamed B.named
  have hlocks := B.notSynchronized
  subst hsz
  have hK := hT.1
  have hD := hD0.self (sz := s.heap.size)
  generalize hAe : va_A [(h0, .inr (5, [.ref ai, .ref pu, .ref pa, .ref ga, .ref sc, .ref hi, .ref gr, .int (nI me), .int (nI dp), .int (bI up), .int (nI mi), .int (nI ru), .long wp, .long wl]))] s.heap.size = A at hD hSQ ⊢
  have hA : ∀ q : Nat, s.heap.size ≤ q → A q := fun q h => by rw [← hAe]; exact Or.inr h
  obtain ⟨H, hHe⟩ : ∃ H : Heap, H = s.heap := ⟨_, rfl⟩
  have hS : va_S A s.heap H [] := by rw [hHe]; exact va_S.rf
  rw [← hHe] at hP
  suffices K0 : W p l e (headSpec wsL_rainBy ({ frames := 8, cells := 1, slots := 6, locals := 127 } : Room)).room s m args below meth c H [] 0 0 (vx_MQ below (Qi9 D A [(h0, .inr (5, [.ref ai, .ref pu, .ref pa, .ref ga, .ref sc, .ref hi, .ref gr, .int (nI me), .int (nI dp), .int (bI up), .int (nI mi), .int (nI ru), .long wp, .long wl]))] (nI 1)) XN args s 1 6 A) (entryFrame m args 5) by rw [hHe] at K0; exact K0
  refine W.eq (g2 := entryFrame m ([.ref h0, .int x0, .int x1, .ref ou] : List Value).toArray 5) (by rw [hargs]) ?_
  have hl := lv_entry ([.ref h0, .int x0, .int x1, .ref ou]) (n := 5) (Nat.le_of_ble_eq_true rfl)
  rw [lg_entry_eq]
  generalize (lg_sl ([.ref h0, .int x0, .int x1, .ref ou]) ++ List.replicate (5 - (lg_sl ([.ref h0, .int x0, .int x1, .ref ou])).length) Slot.unset).toArray = ls at hl ⊢
  have hl : lv_has ls 5 [(0, .ref h0), (1, .int x0), (2, .int x1), (3, .ref ou)] := hl
  generalize ([] : List Loc) = locs at hS ⊢
  refine lv_aload_n hx hb dL_rainBy_0 rfl (lv_at hl 3 rfl) ?_
  refine lv_iconst (v := nI 0) hx hb dL_rainBy_1 (by decide) ?_
  refine lv_aload_n hx hb dL_rainBy_2 rfl (lv_at hl 0 rfl) ?_
  refine lv_iload_n hx hb dL_rainBy_3 rfl (lv_at hl 1 rfl) ?_
  refine lv_iload_n hx hb dL_rainBy_4 rfl (lv_at hl 2 rfl) ?_
  refine wk_l (wc := [(h0, .inr (5, [.ref ai, .ref pu, .ref pa, .ref ga, .ref sc, .ref hi, .ref gr, .int (nI me), .int (nI dp), .int (bI up), .int (nI mi), .int (nI ru), .long wp, .long wl]))]) (own := RL) (E := "java/lang/IndexOutOfBoundsException") hown (tableOf []) ⟨0, 9, 12, 13⟩ (tableOf [(0, 9, 16, 15)]) (htab.trans rfl) (fun z hz => by cases hz) (by decide) (by decide) (hts (.classLink RL 13 "java/lang/IndexOutOfBoundsException") (by decide +kernel)) hST.2.1.1.1 hP hD hS hA [0] rfl rfl (vx_runV (As := [.int x0, .int x1]) (rest := [.int (nI 0), .ref ou]) ⟨hx, hb, hml, hown, hts⟩ (x_X5_rainBy_0 l hlst D cI cJ cZ h0 ai pu pa ga sc hi gr me dp up mi ru wp wl x0 x1 hbad H.size) (cwV 2 hts gL_rainBy_X5_rainBy rfl rfl rfl (by decide +kernel) ⟨Nat.le_of_ble_eq_true rfl, Nat.le_of_ble_eq_true rfl⟩) (pxV (wc := [(h0, .inr (5, [.ref ai, .ref pu, .ref pa, .ref ga, .ref sc, .ref hi, .ref gr, .int (nI me), .int (nI dp), .int (bI up), .int (nI mi), .int (nI ru), .long wp, .long wl]))]) hT hP hD hA [0] rfl rfl 0 rfl rfl hST hSQ hS) rfl rfl hl.1 rfl (lv_room (Nat.le_of_ble_eq_true rfl)) dL_rainBy_5 ⟨Nat.le_of_ble_eq_true rfl, Nat.le_of_ble_eq_true rfl⟩) (fun q9 H locs hP hD hS => ?_)
  refine lv_astore (lv' := [(4, .ref q9), (0, .ref h0), (1, .int x0), (2, .int x1), (3, .ref ou)]) hx hb dL_rainBy_12 hl (by decide) rfl (fun ls hl => ?_)
  refine lv_iconst (v := nI 1) hx hb dL_rainBy_14 (by decide) ?_
  exact vx_ret (fin_i hx hb hr hlocks hP hD hS rfl dL_rainBy_15)
set_option maxHeartbeats 4000000 in
set_option maxRecDepth 100000 in
theorem w_L_rainBy_b1 (l : Launch) (hlst : l.stackTraces = false) (D : va_G) (cI cJ cZ : ClassId) (h0 : Nat) (ai : Nat) (pu : Nat) (pa : Nat) (ga : Nat) (sc : Nat) (hi : Nat) (gr : Nat) (me : Nat) (dp : Nat) (up : Bool) (mi : Nat) (ru : Nat) (wp : Int64) (wl : Int64) (ki : Nat) (x1 : Int32) (ou : Nat) (hki : ki < 20) (hbad : x1.toInt < 1 ∨ 1000 < x1.toInt) (sz : Nat) : vx_Met l yL_rainBy wsL_rainBy ({ frames := 8, cells := 1, slots := 6, locals := 129 } : Room) (va_Pc [.ref h0, .int (nI ki), .int x1, .ref ou] (xPre D cI cJ cZ [(h0, .inr (5, [.ref ai, .ref pu, .ref pa, .ref ga, .ref sc, .ref hi, .ref gr, .int (nI me), .int (nI dp), .int (bI up), .int (nI mi), .int (nI ru), .long wp, .long wl]))] sz)) (Qi9 D (va_A [(h0, .inr (5, [.ref ai, .ref pu, .ref pa, .ref ga, .ref sc, .ref hi, .ref gr, .int (nI me), .int (nI dp), .int (bI up), .int (nI mi), .int (nI ru), .long wp, .long wl]))] sz) [(h0, .inr (5, [.ref ai, .ref pu, .ref pa, .ref ga, .ref sc, .ref hi, .ref gr, .int (nI me), .int (nI dp), .int (bI up), .int (nI mi), .int (nI ru), .long wp, .long wl]))] (nI 2)) XN 1 6 (va_A [(h0, .inr (5, [.ref ai, .ref pu, .ref pa, .ref ga, .ref sc, .ref hi, .ref gr, .int (nI me), .int (nI dp), .int (bI up), .int (nI mi), .int (nI ru), .long wp, .long wl]))] sz) := by
  refine vx_ofWH (hh := [(0, 9, 12, 13), (0, 9, 16, 15)]) (cc := cL_rainBy) (maxL := 5) (ret := (some .int)) (by decide) rfl ?_
  intro p e s m args below meth c s₁ B hml hv
  obtain ⟨hargs, ⟨hsz, hP, hT, hD0⟩, hST, hSQ⟩ := hv
  have hx := B.exec
  have hb := B.bytes
  have hr := B.returns
  have hts := atoms_spec (ws := wsL_rainBy) B.pre
  have htab := vx_table (x := yL_rainBy) B (hts _ List.mem_cons_self)
  have hown : s.vm.findClass RL = some m.cls := findClass_of_methodNamed B.named
  have hlocks := B.notSynchronized
  subst hsz
  have hK := hT.1
  have hD := hD0.self (sz := s.heap.size)
  generalize hAe : va_A [(h0, .inr (5, [.ref ai, .ref pu, .ref pa, .ref ga, .ref sc, .ref hi, .ref gr, .int (nI me), .int (nI dp), .int (bI up), .int (nI mi), .int (nI ru), .long wp, .long wl]))] s.heap.size = A at hD hSQ ⊢
  have hA : ∀ q : Nat, s.heap.size ≤ q → A q := fun q h => by rw [← hAe]; exact Or.inr h
  obtain ⟨H, hHe⟩ : ∃ H : Heap, H = s.heap := ⟨_, rfl⟩
  have hS : va_S A s.heap H [] := by rw [hHe]; exact va_S.rf
  rw [← hHe] at hP
  suffices K0 : W p l e (headSpec wsL_rainBy ({ frames := 8, cells := 1, slots := 6, locals := 129 } : Room)).room s m args below meth c H [] 0 0 (vx_MQ below (Qi9 D A [(h0, .inr (5, [.ref ai, .ref pu, .ref pa, .ref ga, .ref sc, .ref hi, .ref gr, .int (nI me), .int (nI dp), .int (bI up), .int (nI mi), .int (nI ru), .long wp, .long wl]))] (nI 2)) XN args s 1 6 A) (entryFrame m args 5) by rw [hHe] at K0; exact K0
  refine W.eq (g2 := entryFrame m ([.ref h0, .int (nI ki), .int x1, .ref ou] : List Value).toArray 5) (by rw [hargs]) ?_
  have hl := lv_entry ([.ref h0, .int (nI ki), .int x1, .ref ou]) (n := 5) (Nat.le_of_ble_eq_true rfl)
  rw [lg_entry_eq]
  generalize (lg_sl ([.ref h0, .int (nI ki), .int x1, .ref ou]) ++ List.replicate (5 - (lg_sl ([.ref h0, .int (nI ki), .int x1, .ref ou])).length) Slot.unset).toArray = ls at hl ⊢
  have hl : lv_has ls 5 [(0, .ref h0), (1, .int (nI ki)), (2, .int x1), (3, .ref ou)] := hl
  generalize ([] : List Loc) = locs at hS ⊢
  refine lv_aload_n hx hb dL_rainBy_0 rfl (lv_at hl 3 rfl) ?_
  refine lv_iconst (v := nI 0) hx hb dL_rainBy_1 (by decide) ?_
  refine lv_aload_n hx hb dL_rainBy_2 rfl (lv_at hl 0 rfl) ?_
  refine lv_iload_n hx hb dL_rainBy_3 rfl (lv_at hl 1 rfl) ?_
  refine lv_iload_n hx hb dL_rainBy_4 rfl (lv_at hl 2 rfl) ?_
  refine wk_l (wc := [(h0, .inr (5, [.ref ai, .ref pu, .ref pa, .ref ga, .ref sc, .ref hi, .ref gr, .int (nI me), .int (nI dp), .int (bI up), .int (nI mi), .int (nI ru), .long wp, .long wl]))]) (own := RL) (E := "java/lang/IllegalArgumentException") hown (tableOf [(0, 9, 12, 13)]) ⟨0, 9, 16, 15⟩ (tableOf []) (htab.trans rfl) (fun z hz => by rw [List.mem_singleton.mp hz]; exact (by exact Or.inr ⟨by decide, "java/lang/IndexOutOfBoundsException", hts (.classLink RL 13 "java/lang/IndexOutOfBoundsException") (by decide +kernel), hST.2.1.2.1⟩)) (by decide) (by decide) (hts (.classLink RL 15 "java/lang/IllegalArgumentException") (by decide +kernel)) hST.2.1.1.2.1 hP hD hS hA [0] rfl rfl (vx_runV (As := [.int (nI ki), .int x1]) (rest := [.int (nI 0), .ref ou]) ⟨hx, hb, hml, hown, hts⟩ (x_X5_rainBy_1 l hlst D cI cJ cZ h0 ai pu pa ga sc hi gr me dp up mi ru wp wl ki x1 hki hbad H.size) (cwV 2 hts gL_rainBy_X5_rainBy rfl rfl rfl (by decide +kernel) ⟨Nat.le_of_ble_eq_true rfl, Nat.le_of_ble_eq_true rfl⟩) (pxV (wc := [(h0, .inr (5, [.ref ai, .ref pu, .ref pa, .ref ga, .ref sc, .ref hi, .ref gr, .int (nI me), .int (nI dp), .int (bI up), .int (nI mi), .int (nI ru), .long wp, .long wl]))]) hT hP hD hA [0] rfl rfl 0 rfl rfl hST hSQ hS) rfl rfl hl.1 rfl (lv_room (Nat.le_of_ble_eq_true rfl)) dL_rainBy_5 ⟨Nat.le_of_ble_eq_true rfl, Nat.le_of_ble_eq_true rfl⟩) (fun q9 H locs hP hD hS => ?_)
  refine lv_astore (lv' := [(4, .ref q9), (0, .ref h0), (1, .int (nI ki)), (2, .int x1), (3, .ref ou)]) hx hb dL_rainBy_16 hl (by decide) rfl (fun ls hl => ?_)
  refine lv_iconst (v := nI 2) hx hb dL_rainBy_18 (by decide) ?_
  exact vx_ret (fin_i hx hb hr hlocks hP hD hS rfl dL_rainBy_19)
set_option maxHeartbeats 4000000 in
set_option maxRecDepth 100000 in
theorem w_L_motion_b0 (l : Launch) (hlst : l.stackTraces = false) (D : va_G) (cI cJ cZ : ClassId) (h0 : Nat) (ai : Nat) (pu : Nat) (pa : Nat) (ga : Nat) (sc : Nat) (hi : Nat) (gr : Nat) (me : Nat) (dp : Nat) (up : Bool) (mi : Nat) (ru : Nat) (wp : Int64) (wl : Int64) (s1 : Nat) (s2 : Nat) (EC : Nat → Int64) (RU : Nat → Nat) (sm : Nat) (ou : Nat) (hsm : sm < 2) (sz : Nat) : vx_Met l yL_motion wsL_motion ({ frames := 7, cells := 1, slots := 6, locals := 110 } : Room) (va_Pc [.ref h0, .ref ou] (xPre D cI cJ cZ [(h0, .inr (5, [.ref ai, .ref pu, .ref pa, .ref ga, .ref sc, .ref hi, .ref gr, .int (nI me), .int (nI dp), .int (bI up), .int (nI mi), .int (nI ru), .long wp, .long wl])), (sc, .inr (4, [.ref s1, .ref s2, .int (nI sm)])), (s1, .inl (cJ, 600, .inr (.inl EC))), (s2, .inl (cI, 30, .inl (nA RU)))] sz)) (Qi9 D (va_A [(h0, .inr (5, [.ref ai, .ref pu, .ref pa, .ref ga, .ref sc, .ref hi, .ref gr, .int (nI me), .int (nI dp), .int (bI up), .int (nI mi), .int (nI ru), .long wp, .long wl])), (sc, .inr (4, [.ref s1, .ref s2, .int (nI sm)])), (s1, .inl (cJ, 600, .inr (.inl EC))), (s2, .inl (cI, 30, .inl (nA RU)))] sz) [(h0, .inr (5, [.ref ai, .ref pu, .ref pa, .ref ga, .ref sc, .ref hi, .ref gr, .int (nI me), .int (nI dp), .int (bI up), .int (nI mi), .int (nI ru), .long wp, .long wl])), (sc, .inr (4, [.ref s1, .ref s2, .int (nI sm)])), (s1, .inl (cJ, 600, .inr (.inl EC))), (s2, .inl (cI, 30, .inl (nA RU)))] (nI 1)) XN 1 6 (va_A [(h0, .inr (5, [.ref ai, .ref pu, .ref pa, .ref ga, .ref sc, .ref hi, .ref gr, .int (nI me), .int (nI dp), .int (bI up), .int (nI mi), .int (nI ru), .long wp, .long wl])), (sc, .inr (4, [.ref s1, .ref s2, .int (nI sm)])), (s1, .inl (cJ, 600, .inr (.inl EC))), (s2, .inl (cI, 30, .inl (nA RU)))] sz) := by
  refine vx_ofWH (hh := [(0, 8, 11, 17)]) (cc := cL_motion) (maxL := 3) (ret := (some .int)) (by decide) rfl ?_
  intro p e s m args below meth c s₁ B hml hv
  obtain ⟨hargs, ⟨hsz, hP, hT, hD0⟩, hST, hSQ⟩ := hv
  have hx := B.exec
  have hb := B.bytes
  have hr := B.returns
  have hts := atoms_spec (ws := wsL_motion) B.pre
  have htab := vx_table (x := yL_motion) B (hts _ List.mem_cons_self)
  have hown : s.vm.findClass RL = some m.cls := findClass_of_methodNamed B.named
  have hlocks := B.notSynchronized
  subst hsz
  have hK := hT.1
  have hD := hD0.self (sz := s.heap.size)
  generalize hAe : va_A [(h0, .inr (5, [.ref ai, .ref pu, .ref pa, .ref ga, .ref sc, .ref hi, .ref gr, .int (nI me), .int (nI dp), .int (bI up), .int (nI mi), .int (nI ru), .long wp, .long wl])), (sc, .inr (4, [.ref s1, .ref s2, .int (nI sm)])), (s1, .inl (cJ, 600, .inr (.inl EC))), (s2, .inl (cI, 30, .inl (nA RU)))] s.heap.size = A at hD hSQ ⊢
  have hA : ∀ q : Nat, s.heap.size ≤ q → A q := fun q h => by rw [← hAe]; exact Or.inr h
  obtain ⟨H, hHe⟩ : ∃ H : Heap, H = s.heap := ⟨_, rfl⟩
  have hS : va_S A s.heap H [] := by rw [hHe]; exact va_S.rf
  rw [← hHe] at hP
  suffices K0 : W p l e (headSpec wsL_motion ({ frames := 7, cells := 1, slots := 6, locals := 110 } : Room)).room s m args below meth c H [] 0 0 (vx_MQ below (Qi9 D A [(h0, .inr (5, [.ref ai, .ref pu, .ref pa, .ref ga, .ref sc, .ref hi, .ref gr, .int (nI me), .int (nI dp), .int (bI up), .int (nI mi), .int (nI ru), .long wp, .long wl])), (sc, .inr (4, [.ref s1, .ref s2, .int (nI sm)])), (s1, .inl (cJ, 600, .inr (.inl EC))), (s2, .inl (cI, 30, .inl (nA RU)))] (nI 1)) XN args s 1 6 A) (entryFrame m args 3) by rw [hHe] at K0; exact K0
  refine W.eq (g2 := entryFrame m ([.ref h0, .ref ou] : List Value).toArray 3) (by rw [hargs]) ?_
  have hl := lv_entry ([.ref h0, .ref ou]) (n := 3) (Nat.le_of_ble_eq_true rfl)
  rw [lg_entry_eq]
  generalize (lg_sl ([.ref h0, .ref ou]) ++ List.replicate (3 - (lg_sl ([.ref h0, .ref ou])).length) Slot.unset).toArray = ls at hl ⊢
  have hl : lv_has ls 3 [(0, .ref h0), (1, .ref ou)] := hl
  generalize ([] : List Loc) = locs at hS ⊢
  refine lv_aload_n hx hb dL_motion_0 rfl (lv_at hl 1 rfl) ?_
  refine lv_iconst (v := nI 0) hx hb dL_motion_1 (by decide) ?_
  refine lv_aload_n hx hb dL_motion_2 rfl (lv_at hl 0 rfl) ?_
  refine wk_i (wc := [(h0, .inr (5, [.ref ai, .ref pu, .ref pa, .ref ga, .ref sc, .ref hi, .ref gr, .int (nI me), .int (nI dp), .int (bI up), .int (nI mi), .int (nI ru), .long wp, .long wl])), (sc, .inr (4, [.ref s1, .ref s2, .int (nI sm)])), (s1, .inl (cJ, 600, .inr (.inl EC))), (s2, .inl (cI, 30, .inl (nA RU)))]) (own := RL) (E := "java/lang/IllegalStateException") hown (tableOf []) ⟨0, 8, 11, 17⟩ (tableOf []) (htab.trans rfl) (fun z hz => by cases hz) (by decide) (by decide) (hts (.classLink RL 17 "java/lang/IllegalStateException") (by decide +kernel)) hST.2.1.1.2.2 hP hD hS hA [0, 1, 2, 3] rfl rfl (vx_runV (As := []) (rest := [.int (nI 0), .ref ou]) ⟨hx, hb, hml, hown, hts⟩ (x_X5_motion_0 l hlst D cI cJ cZ h0 ai pu pa ga sc hi gr me dp up mi ru wp wl s1 s2 EC RU sm hsm H.size) (cwV 0 hts gL_motion_X5_motion rfl rfl rfl (by decide +kernel) ⟨Nat.le_of_ble_eq_true rfl, Nat.le_of_ble_eq_true rfl⟩) (pxV (wc := [(h0, .inr (5, [.ref ai, .ref pu, .ref pa, .ref ga, .ref sc, .ref hi, .ref gr, .int (nI me), .int (nI dp), .int (bI up), .int (nI mi), .int (nI ru), .long wp, .long wl])), (sc, .inr (4, [.ref s1, .ref s2, .int (nI sm)])), (s1, .inl (cJ, 600, .inr (.inl EC))), (s2, .inl (cI, 30, .inl (nA RU)))]) hT hP hD hA [0, 1, 2, 3] rfl rfl 0 rfl rfl hST hSQ hS) rfl rfl hl.1 rfl (lv_room (Nat.le_of_ble_eq_true rfl)) dL_motion_3 ⟨Nat.le_of_ble_eq_true rfl, Nat.le_of_ble_eq_true rfl⟩) (fun q9 H locs hP hD hS => ?_)
  refine lv_astore_n (lv' := [(2, .ref q9), (0, .ref h0), (1, .ref ou)]) hx hb dL_motion_11 rfl hl (by decide) rfl (fun ls hl => ?_)
  refine lv_iconst (v := nI 1) hx hb dL_motion_12 (by decide) ?_
  exact vx_ret (fin_i hx hb hr hlocks hP hD hS rfl dL_motion_13)
set_option maxHeartbeats 4000000 in
set_option maxRecDepth 100000 in
theorem w_L_collected_b0 (l : Launch) (hlst : l.stackTraces = false) (D : va_G) (cI cJ cZ : ClassId) (h0 : Nat) (ai : Nat) (pu : Nat) (pa : Nat) (ga : Nat) (sc : Nat) (hi : Nat) (gr : Nat) (me : Nat) (dp : Nat) (up : Bool) (mi : Nat) (ru : Nat) (wp : Int64) (wl : Int64) (x0 : Int32) (ou : Nat) (hbad : x0.toInt < 0 ∨ 20 ≤ x0.toInt) (sz : Nat) : vx_Met l yL_collected wsL_collected ({ frames := 8, cells := 1, slots := 6, locals := 123 } : Room) (va_Pc [.ref h0, .int x0, .ref ou] (xPre D cI cJ cZ [(h0, .inr (5, [.ref ai, .ref pu, .ref pa, .ref ga, .ref sc, .ref hi, .ref gr, .int (nI me), .int (nI dp), .int (bI up), .int (nI mi), .int (nI ru), .long wp, .long wl]))] sz)) (Qi9 D (va_A [(h0, .inr (5, [.ref ai, .ref pu, .ref pa, .ref ga, .ref sc, .ref hi, .ref gr, .int (nI me), .int (nI dp), .int (bI up), .int (nI mi), .int (nI ru), .long wp, .long wl]))] sz) [(h0, .inr (5, [.ref ai, .ref pu, .ref pa, .ref ga, .ref sc, .ref hi, .ref gr, .int (nI me), .int (nI dp), .int (bI up), .int (nI mi), .int (nI ru), .long wp, .long wl]))] (nI 1)) XN 1 6 (va_A [(h0, .inr (5, [.ref ai, .ref pu, .ref pa, .ref ga, .ref sc, .ref hi, .ref gr, .int (nI me), .int (nI dp), .int (bI up), .int (nI mi), .int (nI ru), .long wp, .long wl]))] sz) := by
  refine vx_ofWH (hh := [(0, 8, 11, 13)]) (cc := cL_collected) (maxL := 4) (ret := (some .int)) (by decide) rfl ?_
  intro p e s m args below meth c s₁ B hml hv
  obtain ⟨hargs, ⟨hsz, hP, hT, hD0⟩, hST, hSQ⟩ := hv
  have hx := B.exec
  have hb := B.bytes
  have hr := B.returns
  have hts := atoms_spec (ws := wsL_collected) B.pre
  have htab := vx_table (x := yL_collected) B (hts _ List.mem_cons_self)
  have hown : s.vm.findClass RL = some m.cls := findClass_of_methodNamed B.named
  have hlocks := B.notSynchronized
  subst hsz
  have hK := hT.1
  have hD := hD0.self (sz := s.heap.size)
  generalize hAe : va_A [(h0, .inr (5, [.ref ai, .ref pu, .ref pa, .ref ga, .ref sc, .ref hi, .ref gr, .int (nI me), .int (nI dp), .int (bI up), .int (nI mi), .int (nI ru), .long wp, .long wl]))] s.heap.size = A at hD hSQ ⊢
  have hA : ∀ q : Nat, s.heap.size ≤ q → A q := fun q h => by rw [← hAe]; exact Or.inr h
  obtain ⟨H, hHe⟩ : ∃ H : Heap, H = s.heap := ⟨_, rfl⟩
  have hS : va_S A s.heap H [] := by rw [hHe]; exact va_S.rf
  rw [← hHe] at hP
  suffices K0 : W p l e (headSpec wsL_collected ({ frames := 8, cells := 1, slots := 6, locals := 123 } : Room)).room s m args below meth c H [] 0 0 (vx_MQ below (Qi9 D A [(h0, .inr (5, [.ref ai, .ref pu, .ref pa, .ref ga, .ref sc, .ref hi, .ref gr, .int (nI me), .int (nI dp), .int (bI up), .int (nI mi), .int (nI ru), .long wp, .long wl]))] (nI 1)) XN args s 1 6 A) (entryFrame m args 4) by rw [hHe] at K0; exact K0
  refine W.eq (g2 := entryFrame m ([.ref h0, .int x0, .ref ou] : List Value).toArray 4) (by rw [hargs]) ?_
  have hl := lv_entry ([.ref h0, .int x0, .ref ou]) (n := 4) (Nat.le_of_ble_eq_true rfl)
  rw [lg_entry_eq]
  generalize (lg_sl ([.ref h0, .int x0, .ref ou]) ++ List.replicate (4 - (lg_sl ([.ref h0, .int x0, .ref ou])).length) Slot.unset).toArray = ls at hl ⊢
  have hl : lv_has ls 4 [(0, .ref h0), (1, .int x0), (2, .ref ou)] := hl
  generalize ([] : List Loc) = locs at hS ⊢
  refine lv_aload_n hx hb dL_collected_0 rfl (lv_at hl 2 rfl) ?_
  refine lv_iconst (v := nI 0) hx hb dL_collected_1 (by decide) ?_
  refine lv_aload_n hx hb dL_collected_2 rfl (lv_at hl 0 rfl) ?_
  refine lv_iload_n hx hb dL_collected_3 rfl (lv_at hl 1 rfl) ?_
  refine wk_l (wc := [(h0, .inr (5, [.ref ai, .ref pu, .ref pa, .ref ga, .ref sc, .ref hi, .ref gr, .int (nI me), .int (nI dp), .int (bI up), .int (nI mi), .int (nI ru), .long wp, .long wl]))]) (own := RL) (E := "java/lang/IndexOutOfBoundsException") hown (tableOf []) ⟨0, 8, 11, 13⟩ (tableOf []) (htab.trans rfl) (fun z hz => by cases hz) (by decide) (by decide) (hts (.classLink RL 13 "java/lang/IndexOutOfBoundsException") (by decide +kernel)) hST.2.1.1.1 hP hD hS hA [0] rfl rfl (vx_runV (As := [.int x0]) (rest := [.int (nI 0), .ref ou]) ⟨hx, hb, hml, hown, hts⟩ (x_X5_collected_0 l hlst D cI cJ cZ h0 ai pu pa ga sc hi gr me dp up mi ru wp wl x0 hbad H.size) (cwV 1 hts gL_collected_X5_collected rfl rfl rfl (by decide +kernel) ⟨Nat.le_of_ble_eq_true rfl, Nat.le_of_ble_eq_true rfl⟩) (pxV (wc := [(h0, .inr (5, [.ref ai, .ref pu, .ref pa, .ref ga, .ref sc, .ref hi, .ref gr, .int (nI me), .int (nI dp), .int (bI up), .int (nI mi), .int (nI ru), .long wp, .long wl]))]) hT hP hD hA [0] rfl rfl 0 rfl rfl hST hSQ hS) rfl rfl hl.1 rfl (lv_room (Nat.le_of_ble_eq_true rfl)) dL_collected_4 ⟨Nat.le_of_ble_eq_true rfl, Nat.le_of_ble_eq_true rfl⟩) (fun q9 H locs hP hD hS => ?_)
  refine lv_astore_n (lv' := [(3, .ref q9), (0, .ref h0), (1, .int x0), (2, .ref ou)]) hx hb dL_collected_11 rfl hl (by decide) rfl (fun ls hl => ?_)
  refine lv_iconst (v := nI 1) hx hb dL_collected_12 (by decide) ?_
  exact vx_ret (fin_i hx hb hr hlocks hP hD hS rfl dL_collected_13)
set_option maxHeartbeats 4000000 in
set_option maxRecDepth 100000 in
theorem w_L_collected_b1 (l : Launch) (hlst : l.stackTraces = false) (D : va_G) (cI cJ cZ : ClassId) (h0 : Nat) (ai : Nat) (pu : Nat) (pa : Nat) (ga : Nat) (sc : Nat) (hi : Nat) (gr : Nat) (me : Nat) (dp : Nat) (up : Bool) (mi : Nat) (ru : Nat) (wp : Int64) (wl : Int64) (g1 : Nat) (g2 : Nat) (g3 : Nat) (UP : Nat → Bool) (CL : Nat → Bool) (CO : Nat → Int64) (ki : Nat) (ou : Nat) (hki : ki < 20) (hup : UP ki = false) (sz : Nat) : vx_Met l yL_collected wsL_collected ({ frames := 8, cells := 1, slots := 6, locals := 124 } : Room) (va_Pc [.ref h0, .int (nI ki), .ref ou] (xPre D cI cJ cZ [(h0, .inr (5, [.ref ai, .ref pu, .ref pa, .ref ga, .ref sc, .ref hi, .ref gr, .int (nI me), .int (nI dp), .int (bI up), .int (nI mi), .int (nI ru), .long wp, .long wl])), (ga, .inr (1, [.ref g1, .ref g2, .ref g3])), (g1, .inl (cZ, 20, .inl (bA UP))), (g2, .inl (cZ, 20, .inl (bA CL))), (g3, .inl (cJ, 20, .inr (.inl CO)))] sz)) (Qi9 D (va_A [(h0, .inr (5, [.ref ai, .ref pu, .ref pa, .ref ga, .ref sc, .ref hi, .ref gr, .int (nI me), .int (nI dp), .int (bI up), .int (nI mi), .int (nI ru), .long wp, .long wl])), (ga, .inr (1, [.ref g1, .ref g2, .ref g3])), (g1, .inl (cZ, 20, .inl (bA UP))), (g2, .inl (cZ, 20, .inl (bA CL))), (g3, .inl (cJ, 20, .inr (.inl CO)))] sz) [(h0, .inr (5, [.ref ai, .ref pu, .ref pa, .ref ga, .ref sc, .ref hi, .ref gr, .int (nI me), .int (nI dp), .int (bI up), .int (nI mi), .int (nI ru), .long wp, .long wl])), (ga, .inr (1, [.ref g1, .ref g2, .ref g3])), (g1, .inl (cZ, 20, .inl (bA UP))), (g2, .inl (cZ, 20, .inl (bA CL))), (g3, .inl (cJ, 20, .inr (.inl CO)))] (nI 1)) XN 1 6 (va_A [(h0, .inr (5, [.ref ai, .ref pu, .ref pa, .ref ga, .ref sc, .ref hi, .ref gr, .int (nI me), .int (nI dp), .int (bI up), .int (nI mi), .int (nI ru), .long wp, .long wl])), (ga, .inr (1, [.ref g1, .ref g2, .ref g3])), (g1, .inl (cZ, 20, .inl (bA UP))), (g2, .inl (cZ, 20, .inl (bA CL))), (g3, .inl (cJ, 20, .inr (.inl CO)))] sz) := by
  refine vx_ofWH (hh := [(0, 8, 11, 13)]) (cc := cL_collected) (maxL := 4) (ret := (some .int)) (by decide) rfl ?_
  intro p e s m args below meth c s₁ B hml hv
  obtain ⟨hargs, ⟨hsz, hP, hT, hD0⟩, hST, hSQ⟩ := hv
  have hx := B.exec
  have hb := B.bytes
  have hr := B.returns
  have hts := atoms_spec (ws := wsL_collected) B.pre
  have htab := vx_table (x := yL_collected) B (hts _ List.mem_cons_self)
  have hown : s.vm.findClass RL = some m.cls := findClass_of_methodNamed B.named
  have hlocks := B.notSynchronized
  subst hsz
  have hK := hT.1
  have hD := hD0.self (sz := s.heap.size)
  generalize hAe : va_A [(h0, .inr (5, [.ref ai, .ref pu, .ref pa, .ref ga, .ref sc, .ref hi, .ref gr, .int (nI me), .int (nI dp), .int (bI up), .int (nI mi), .int (nI ru), .long wp, .long wl])), (ga, .inr (1, [.ref g1, .ref g2, .ref g3])), (g1, .inl (cZ, 20, .inl (bA UP))), (g2, .inl (cZ, 20, .inl (bA CL))), (g3, .inl (cJ, 20, .inr (.inl CO)))] s.heap.size = A at hD hSQ ⊢
  have hA : ∀ q : Nat, s.heap.size ≤ q → A q := fun q h => by rw [← hAe]; exact Or.inr h
  obtain ⟨H, hHe⟩ : ∃ H : Heap, H = s.heap := ⟨_, rfl⟩
  have hS : va_S A s.heap H [] := by rw [hHe]; exact va_S.rf
  rw [← hHe] at hP
  suffices K0 : W p l e (headSpec wsL_collected ({ frames := 8, cells := 1, slots := 6, locals := 124 } : Room)).room s m args below meth c H [] 0 0 (vx_MQ below (Qi9 D A [(h0, .inr (5, [.ref ai, .ref pu, .ref pa, .ref ga, .ref sc, .ref hi, .ref gr, .int (nI me), .int (nI dp), .int (bI up), .int (nI mi), .int (nI ru), .long wp, .long wl])), (ga, .inr (1, [.ref g1, .ref g2, .ref g3])), (g1, .inl (cZ, 20, .inl (bA UP))), (g2, .inl (cZ, 20, .inl (bA CL))), (g3, .inl (cJ, 20, .inr (.inl CO)))] (nI 1)) XN args s 1 6 A) (entryFrame m args 4) by rw [hHe] at K0; exact K0
  refine W.eq (g2 := entryFrame m ([.ref h0, .int (nI ki), .ref ou] : List Value).toArray 4) (by rw [hargs]) ?_
  have hl := lv_entry ([.ref h0, .int (nI ki), .ref ou]) (n := 4) (Nat.le_of_ble_eq_true rfl)
  rw [lg_entry_eq]
  generalize (lg_sl ([.ref h0, .int (nI ki), .ref ou]) ++ List.replicate (4 - (lg_sl ([.ref h0, .int (nI ki), .ref ou])).length) Slot.unset).toArray = ls at hl ⊢
  have hl : lv_has ls 4 [(0, .ref h0), (1, .int (nI ki)), (2, .ref ou)] := hl
  generalize ([] : List Loc) = locs at hS ⊢
  refine lv_aload_n hx hb dL_collected_0 rfl (lv_at hl 2 rfl) ?_
  refine lv_iconst (v := nI 0) hx hb dL_collected_1 (by decide) ?_
  refine lv_aload_n hx hb dL_collected_2 rfl (lv_at hl 0 rfl) ?_
  refine lv_iload_n hx hb dL_collected_3 rfl (lv_at hl 1 rfl) ?_
  refine wk_l (wc := [(h0, .inr (5, [.ref ai, .ref pu, .ref pa, .ref ga, .ref sc, .ref hi, .ref gr, .int (nI me), .int (nI dp), .int (bI up), .int (nI mi), .int (nI ru), .long wp, .long wl])), (ga, .inr (1, [.ref g1, .ref g2, .ref g3])), (g1, .inl (cZ, 20, .inl (bA UP))), (g2, .inl (cZ, 20, .inl (bA CL))), (g3, .inl (cJ, 20, .inr (.inl CO)))]) (own := RL) (E := "java/lang/IndexOutOfBoundsException") hown (tableOf []) ⟨0, 8, 11, 13⟩ (tableOf []) (htab.trans rfl) (fun z hz => by cases hz) (by decide) (by decide) (hts (.classLink RL 13 "java/lang/IndexOutOfBoundsException") (by decide +kernel)) hST.2.1.1.1 hP hD hS hA [0, 1, 2, 3, 4] rfl rfl (vx_runV (As := [.int (nI ki)]) (rest := [.int (nI 0), .ref ou]) ⟨hx, hb, hml, hown, hts⟩ (x_X5_collected_1 l hlst D cI cJ cZ h0 ai pu pa ga sc hi gr me dp up mi ru wp wl g1 g2 g3 UP CL CO ki hki hup H.size) (cwV 1 hts gL_collected_X5_collected rfl rfl rfl (by decide +kernel) ⟨Nat.le_of_ble_eq_true rfl, Nat.le_of_ble_eq_true rfl⟩) (pxV (wc := [(h0, .inr (5, [.ref ai, .ref pu, .ref pa, .ref ga, .ref sc, .ref hi, .ref gr, .int (nI me), .int (nI dp), .int (bI up), .int (nI mi), .int (nI ru), .long wp, .long wl])), (ga, .inr (1, [.ref g1, .ref g2, .ref g3])), (g1, .inl (cZ, 20, .inl (bA UP))), (g2, .inl (cZ, 20, .inl (bA CL))), (g3, .inl (cJ, 20, .inr (.inl CO)))]) hT hP hD hA [0, 1, 2, 3, 4] rfl rfl 0 rfl rfl hST hSQ hS) rfl rfl hl.1 rfl (lv_room (Nat.le_of_ble_eq_true rfl)) dL_collected_4 ⟨Nat.le_of_ble_eq_true rfl, Nat.le_of_ble_eq_true rfl⟩) (fun q9 H locs hP hD hS => ?_)
  refine lv_astore_n (lv' := [(3, .ref q9), (0, .ref h0), (1, .int (nI ki)), (2, .ref ou)]) hx hb dL_collected_11 rfl hl (by decide) rfl (fun ls hl => ?_)
  refine lv_iconst (v := nI 1) hx hb dL_collected_12 (by decide) ?_
  exact vx_ret (fin_i hx hb hr hlocks hP hD hS rfl dL_collected_13)
set_option maxHeartbeats 4000000 in
set_option maxRecDepth 100000 in
theorem w_L_ground_b0 (l : Launch) (hlst : l.stackTraces = false) (D : va_G) (cI cJ cZ : ClassId) (h0 : Nat) (ai : Nat) (pu : Nat) (pa : Nat) (ga : Nat) (sc : Nat) (hi : Nat) (gr : Nat) (me : Nat) (dp : Nat) (up : Bool) (mi : Nat) (ru : Nat) (wp : Int64) (wl : Int64) (x0 : Int32) (ou : Nat) (hbad : x0.toInt < 0 ∨ 20 ≤ x0.toInt) (sz : Nat) : vx_Met l yL_ground wsL_ground ({ frames := 8, cells := 1, slots := 6, locals := 123 } : Room) (va_Pc [.ref h0, .int x0, .ref ou] (xPre D cI cJ cZ [(h0, .inr (5, [.ref ai, .ref pu, .ref pa, .ref ga, .ref sc, .ref hi, .ref gr, .int (nI me), .int (nI dp), .int (bI up), .int (nI mi), .int (nI ru), .long wp, .long wl]))] sz)) (Qi9 D (va_A [(h0, .inr (5, [.ref ai, .ref pu, .ref pa, .ref ga, .ref sc, .ref hi, .ref gr, .int (nI me), .int (nI dp), .int (bI up), .int (nI mi), .int (nI ru), .long wp, .long wl]))] sz) [(h0, .inr (5, [.ref ai, .ref pu, .ref pa, .ref ga, .ref sc, .ref hi, .ref gr, .int (nI me), .int (nI dp), .int (bI up), .int (nI mi), .int (nI ru), .long wp, .long wl]))] (nI 1)) XN 1 6 (va_A [(h0, .inr (5, [.ref ai, .ref pu, .ref pa, .ref ga, .ref sc, .ref hi, .ref gr, .int (nI me), .int (nI dp), .int (bI up), .int (nI mi), .int (nI ru), .long wp, .long wl]))] sz) := by
  refine vx_ofWH (hh := [(0, 8, 11, 13)]) (cc := cL_ground) (maxL := 4) (ret := (some .int)) (by decide) rfl ?_
  intro p e s m args below meth c s₁ B hml hv
  obtain ⟨hargs, ⟨hsz, hP, hT, hD0⟩, hST, hSQ⟩ := hv
  have hx := B.exec
  have hb := B.bytes
  have hr := B.returns
  have hts := atoms_spec (ws := wsL_ground) B.pre
  have htab := vx_table (x := yL_ground) B (hts _ List.mem_cons_self)
  have hown : s.vm.findClass RL = some m.cls := findClass_of_methodNamed B.named
  have hlocks := B.notSynchronized
  subst hsz
  have hK := hT.1
  have hD := hD0.self (sz := s.heap.size)
  generalize hAe : va_A [(h0, .inr (5, [.ref ai, .ref pu, .ref pa, .ref ga, .ref sc, .ref hi, .ref gr, .int (nI me), .int (nI dp), .int (bI up), .int (nI mi), .int (nI ru), .long wp, .long wl]))] s.heap.size = A at hD hSQ ⊢
  have hA : ∀ q : Nat, s.heap.size ≤ q → A q := fun q h => by rw [← hAe]; exact Or.inr h
  obtain ⟨H, hHe⟩ : ∃ H : Heap, H = s.heap := ⟨_, rfl⟩
  have hS : va_S A s.heap H [] := by rw [hHe]; exact va_S.rf
  rw [← hHe] at hP
  suffices K0 : W p l e (headSpec wsL_ground ({ frames := 8, cells := 1, slots := 6, locals := 123 } : Room)).room s m args below meth c H [] 0 0 (vx_MQ below (Qi9 D A [(h0, .inr (5, [.ref ai, .ref pu, .ref pa, .ref ga, .ref sc, .ref hi, .ref gr, .int (nI me), .int (nI dp), .int (bI up), .int (nI mi), .int (nI ru), .long wp, .long wl]))] (nI 1)) XN args s 1 6 A) (entryFrame m args 4) by rw [hHe] at K0; exact K0
  refine W.eq (g2 := entryFrame m ([.ref h0, .int x0, .ref ou] : List Value).toArray 4) (by rw [hargs]) ?_
  have hl := lv_entry ([.ref h0, .int x0, .ref ou]) (n := 4) (Nat.le_of_ble_eq_true rfl)
  rw [lg_entry_eq]
  generalize (lg_sl ([.ref h0, .int x0, .ref ou]) ++ List.replicate (4 - (lg_sl ([.ref h0, .int x0, .ref ou])).length) Slot.unset).toArray = ls at hl ⊢
  have hl : lv_has ls 4 [(0, .ref h0), (1, .int x0), (2, .ref ou)] := hl
  generalize ([] : List Loc) = locs at hS ⊢
  refine lv_aload_n hx hb dL_ground_0 rfl (lv_at hl 2 rfl) ?_
  refine lv_iconst (v := nI 0) hx hb dL_ground_1 (by decide) ?_
  refine lv_aload_n hx hb dL_ground_2 rfl (lv_at hl 0 rfl) ?_
  refine lv_iload_n hx hb dL_ground_3 rfl (lv_at hl 1 rfl) ?_
  refine wk_l (wc := [(h0, .inr (5, [.ref ai, .ref pu, .ref pa, .ref ga, .ref sc, .ref hi, .ref gr, .int (nI me), .int (nI dp), .int (bI up), .int (nI mi), .int (nI ru), .long wp, .long wl]))]) (own := RL) (E := "java/lang/IndexOutOfBoundsException") hown (tableOf []) ⟨0, 8, 11, 13⟩ (tableOf []) (htab.trans rfl) (fun z hz => by cases hz) (by decide) (by decide) (hts (.classLink RL 13 "java/lang/IndexOutOfBoundsException") (by decide +kernel)) hST.2.1.1.1 hP hD hS hA [0] rfl rfl (vx_runV (As := [.int x0]) (rest := [.int (nI 0), .ref ou]) ⟨hx, hb, hml, hown, hts⟩ (x_X5_ground_0 l hlst D cI cJ cZ h0 ai pu pa ga sc hi gr me dp up mi ru wp wl x0 hbad H.size) (cwV 1 hts gL_ground_X5_ground rfl rfl rfl (by decide +kernel) ⟨Nat.le_of_ble_eq_true rfl, Nat.le_of_ble_eq_true rfl⟩) (pxV (wc := [(h0, .inr (5, [.ref ai, .ref pu, .ref pa, .ref ga, .ref sc, .ref hi, .ref gr, .int (nI me), .int (nI dp), .int (bI up), .int (nI mi), .int (nI ru), .long wp, .long wl]))]) hT hP hD hA [0] rfl rfl 0 rfl rfl hST hSQ hS) rfl rfl hl.1 rfl (lv_room (Nat.le_of_ble_eq_true rfl)) dL_ground_4 ⟨Nat.le_of_ble_eq_true rfl, Nat.le_of_ble_eq_true rfl⟩) (fun q9 H locs hP hD hS => ?_)
  refine lv_astore_n (lv' := [(3, .ref q9), (0, .ref h0), (1, .int x0), (2, .ref ou)]) hx hb dL_ground_11 rfl hl (by decide) rfl (fun ls hl => ?_)
  refine lv_iconst (v := nI 1) hx hb dL_ground_12 (by decide) ?_
  exact vx_ret (fin_i hx hb hr hlocks hP hD hS rfl dL_ground_13)
set_option maxHeartbeats 4000000 in
set_option maxRecDepth 100000 in
theorem w_L_groundAnew_b0 (l : Launch) (hlst : l.stackTraces = false) (D : va_G) (cI cJ cZ : ClassId) (h0 : Nat) (ai : Nat) (pu : Nat) (pa : Nat) (ga : Nat) (sc : Nat) (hi : Nat) (gr : Nat) (me : Nat) (dp : Nat) (up : Bool) (mi : Nat) (ru : Nat) (wp : Int64) (wl : Int64) (x0 : Int32) (ou : Nat) (hbad : x0.toInt < 0 ∨ 20 ≤ x0.toInt) (sz : Nat) : vx_Met l yL_groundAnew wsL_groundAnew ({ frames := 8, cells := 1, slots := 6, locals := 126 } : Room) (va_Pc [.ref h0, .int x0, .ref ou] (xPre D cI cJ cZ [(h0, .inr (5, [.ref ai, .ref pu, .ref pa, .ref ga, .ref sc, .ref hi, .ref gr, .int (nI me), .int (nI dp), .int (bI up), .int (nI mi), .int (nI ru), .long wp, .long wl]))] sz)) (Qi9 D (va_A [(h0, .inr (5, [.ref ai, .ref pu, .ref pa, .ref ga, .ref sc, .ref hi, .ref gr, .int (nI me), .int (nI dp), .int (bI up), .int (nI mi), .int (nI ru), .long wp, .long wl]))] sz) [(h0, .inr (5, [.ref ai, .ref pu, .ref pa, .ref ga, .ref sc, .ref hi, .ref gr, .int (nI me), .int (nI dp), .int (bI up), .int (nI mi), .int (nI ru), .long wp, .long wl]))] (nI 1)) XN 1 6 (va_A [(h0, .inr (5, [.ref ai, .ref pu, .ref pa, .ref ga, .ref sc, .ref hi, .ref gr, .int (nI me), .int (nI dp), .int (bI up), .int (nI mi), .int (nI ru), .long wp, .long wl]))] sz) := by
  refine vx_ofWH (hh := [(0, 8, 11, 13)]) (cc := cL_groundAnew) (maxL := 4) (ret := (some .int)) (by decide) rfl ?_
  intro p e s m args below meth c s₁ B hml hv
  obtain ⟨hargs, ⟨hsz, hP, hT, hD0⟩, hST, hSQ⟩ := hv
  have hx := B.exec
  have hb := B.bytes
  have hr := B.returns
  have hts := atoms_spec (ws := wsL_groundAnew) B.pre
  have htab := vx_table (x := yL_groundAnew) B (hts _ List.mem_cons_self)
  have hown : s.vm.findClass RL = some m.cls := findClass_of_methodNamed B.named
  have hlocks := B.notSynchronized
  subst hsz
  have hK := hT.1
  have hD := hD0.self (sz := s.heap.size)
  generalize hAe : va_A [(h0, .inr (5, [.ref ai, .ref pu, .ref pa, .ref ga, .ref sc, .ref hi, .ref gr, .int (nI me), .int (nI dp), .int (bI up), .int (nI mi), .int (nI ru), .long wp, .long wl]))] s.heap.size = A at hD hSQ ⊢
  have hA : ∀ q : Nat, s.heap.size ≤ q → A q := fun q h => by rw [← hAe]; exact Or.inr h
  obtain ⟨H, hHe⟩ : ∃ H : Heap, H = s.heap := ⟨_, rfl⟩
  have hS : va_S A s.heap H [] := by rw [hHe]; exact va_S.rf
  rw [← hHe] at hP
  suffices K0 : W p l e (headSpec wsL_groundAnew ({ frames := 8, cells := 1, slots := 6, locals := 126 } : Room)).room s m args below meth c H [] 0 0 (vx_MQ below (Qi9 D A [(h0, .inr (5, [.ref ai, .ref pu, .ref pa, .ref ga, .ref sc, .ref hi, .ref gr, .int (nI me), .int (nI dp), .int (bI up), .int (nI mi), .int (nI ru), .long wp, .long wl]))] (nI 1)) XN args s 1 6 A) (entryFrame m args 4) by rw [hHe] at K0; exact K0
  refine W.eq (g2 := entryFrame m ([.ref h0, .int x0, .ref ou] : List Value).toArray 4) (by rw [hargs]) ?_
  have hl := lv_entry ([.ref h0, .int x0, .ref ou]) (n := 4) (Nat.le_of_ble_eq_true rfl)
  rw [lg_entry_eq]
  generalize (lg_sl ([.ref h0, .int x0, .ref ou]) ++ List.replicate (4 - (lg_sl ([.ref h0, .int x0, .ref ou])).length) Slot.unset).toArray = ls at hl ⊢
  have hl : lv_has ls 4 [(0, .ref h0), (1, .int x0), (2, .ref ou)] := hl
  generalize ([] : List Loc) = locs at hS ⊢
  refine lv_aload_n hx hb dL_groundAnew_0 rfl (lv_at hl 2 rfl) ?_
  refine lv_iconst (v := nI 0) hx hb dL_groundAnew_1 (by decide) ?_
  refine lv_aload_n hx hb dL_groundAnew_2 rfl (lv_at hl 0 rfl) ?_
  refine lv_iload_n hx hb dL_groundAnew_3 rfl (lv_at hl 1 rfl) ?_
  refine wk_l (wc := [(h0, .inr (5, [.ref ai, .ref pu, .ref pa, .ref ga, .ref sc, .ref hi, .ref gr, .int (nI me), .int (nI dp), .int (bI up), .int (nI mi), .int (nI ru), .long wp, .long wl]))]) (own := RL) (E := "java/lang/IndexOutOfBoundsException") hown (tableOf []) ⟨0, 8, 11, 13⟩ (tableOf []) (htab.trans rfl) (fun z hz => by cases hz) (by decide) (by decide) (hts (.classLink RL 13 "java/lang/IndexOutOfBoundsException") (by decide +kernel)) hST.2.1.1.1 hP hD hS hA [0] rfl rfl (vx_runV (As := [.int x0]) (rest := [.int (nI 0), .ref ou]) ⟨hx, hb, hml, hown, hts⟩ (x_X5_groundAnew_0 l hlst D cI cJ cZ h0 ai pu pa ga sc hi gr me dp up mi ru wp wl x0 hbad H.size) (cwV 1 hts gL_groundAnew_X5_groundAnew rfl rfl rfl (by decide +kernel) ⟨Nat.le_of_ble_eq_true rfl, Nat.le_of_ble_eq_true rfl⟩) (pxV (wc := [(h0, .inr (5, [.ref ai, .ref pu, .ref pa, .ref ga, .ref sc, .ref hi, .ref gr, .int (nI me), .int (nI dp), .int (bI up), .int (nI mi), .int (nI ru), .long wp, .long wl]))]) hT hP hD hA [0] rfl rfl 0 rfl rfl hST hSQ hS) rfl rfl hl.1 rfl (lv_room (Nat.le_of_ble_eq_true rfl)) dL_groundAnew_4 ⟨Nat.le_of_ble_eq_true rfl, Nat.le_of_ble_eq_true rfl⟩) (fun q9 H locs hP hD hS => ?_)
  refine lv_astore_n (lv' := [(3, .ref q9), (0, .ref h0), (1, .int x0), (2, .ref ou)]) hx hb dL_groundAnew_11 rfl hl (by decide) rfl (fun ls hl => ?_)
  refine lv_iconst (v := nI 1) hx hb dL_groundAnew_12 (by decide) ?_
  exact vx_ret (fin_i hx hb hr hlocks hP hD hS rfl dL_groundAnew_13)
set_option maxHeartbeats 4000000 in
set_option maxRecDepth 100000 in
theorem w_L_water_b0 (l : Launch) (hlst : l.stackTraces = false) (D : va_G) (cI cJ cZ : ClassId) (h0 : Nat) (ai : Nat) (pu : Nat) (pa : Nat) (ga : Nat) (sc : Nat) (hi : Nat) (gr : Nat) (me : Nat) (dp : Nat) (up : Bool) (mi : Nat) (ru : Nat) (wp : Int64) (wl : Int64) (x0 : Int32) (ou : Nat) (hbad : x0.toInt < 0 ∨ 3 < x0.toInt) (sz : Nat) : vx_Met l yL_water wsL_water ({ frames := 8, cells := 1, slots := 6, locals := 125 } : Room) (va_Pc [.ref h0, .int x0, .ref ou] (xPre D cI cJ cZ [(h0, .inr (5, [.ref ai, .ref pu, .ref pa, .ref ga, .ref sc, .ref hi, .ref gr, .int (nI me), .int (nI dp), .int (bI up), .int (nI mi), .int (nI ru), .long wp, .long wl]))] sz)) (Qi9 D (va_A [(h0, .inr (5, [.ref ai, .ref pu, .ref pa, .ref ga, .ref sc, .ref hi, .ref gr, .int (nI me), .int (nI dp), .int (bI up), .int (nI mi), .int (nI ru), .long wp, .long wl]))] sz) [(h0, .inr (5, [.ref ai, .ref pu, .ref pa, .ref ga, .ref sc, .ref hi, .ref gr, .int (nI me), .int (nI dp), .int (bI up), .int (nI mi), .int (nI ru), .long wp, .long wl]))] (nI 1)) XN 1 6 (va_A [(h0, .inr (5, [.ref ai, .ref pu, .ref pa, .ref ga, .ref sc, .ref hi, .ref gr, .int (nI me), .int (nI dp), .int (bI up), .int (nI mi), .int (nI ru), .long wp, .long wl]))] sz) := by
  refine vx_ofWH (hh := [(0, 8, 11, 15)]) (cc := cL_water) (maxL := 4) (ret := (some .int)) (by decide) rfl ?_
  intro p e s m args below meth c s₁ B hml hv
  obtain ⟨hargs, ⟨hsz, hP, hT, hD0⟩, hST, hSQ⟩ := hv
  have hx := B.exec
  have hb := B.bytes
  have hr := B.returns
  have hts := atoms_spec (ws := wsL_water) B.pre
  have htab := vx_table (x := yL_water) B (hts _ List.mem_cons_self)
  have hown : s.vm.findClass RL = some m.cls := findClass_of_methodNamed B.named
  have hlocks := B.notSynchronized
  subst hsz
  have hK := hT.1
  have hD := hD0.self (sz := s.heap.size)
  generalize hAe : va_A [(h0, .inr (5, [.ref ai, .ref pu, .ref pa, .ref ga, .ref sc, .ref hi, .ref gr, .int (nI me), .int (nI dp), .int (bI up), .int (nI mi), .int (nI ru), .long wp, .long wl]))] s.heap.size = A at hD hSQ ⊢
  have hA : ∀ q : Nat, s.heap.size ≤ q → A q := fun q h => by rw [← hAe]; exact Or.inr h
  obtain ⟨H, hHe⟩ : ∃ H : Heap, H = s.heap := ⟨_, rfl⟩
  have hS : va_S A s.heap H [] := by rw [hHe]; exact va_S.rf
  rw [← hHe] at hP
  suffices K0 : W p l e (headSpec wsL_water ({ frames := 8, cells := 1, slots := 6, locals := 125 } : Room)).room s m args below meth c H [] 0 0 (vx_MQ below (Qi9 D A [(h0, .inr (5, [.ref ai, .ref pu, .ref pa, .ref ga, .ref sc, .ref hi, .ref gr, .int (nI me), .int (nI dp), .int (bI up), .int (nI mi), .int (nI ru), .long wp, .long wl]))] (nI 1)) XN args s 1 6 A) (entryFrame m args 4) by rw [hHe] at K0; exact K0
  refine W.eq (g2 := entryFrame m ([.ref h0, .int x0, .ref ou] : List Value).toArray 4) (by rw [hargs]) ?_
  have hl := lv_entry ([.ref h0, .int x0, .ref ou]) (n := 4) (Nat.le_of_ble_eq_true rfl)
  rw [lg_entry_eq]
  generalize (lg_sl ([.ref h0, .int x0, .ref ou]) ++ List.replicate (4 - (lg_sl ([.ref h0, .int x0, .ref ou])).length) Slot.unset).toArray = ls at hl ⊢
  have hl : lv_has ls 4 [(0, .ref h0), (1, .int x0), (2, .ref ou)] := hl
  generalize ([] : List Loc) = locs at hS ⊢
  refine lv_aload_n hx hb dL_water_0 rfl (lv_at hl 2 rfl) ?_
  refine lv_iconst (v := nI 0) hx hb dL_water_1 (by decide) ?_
  refine lv_aload_n hx hb dL_water_2 rfl (lv_at hl 0 rfl) ?_
  refine lv_iload_n hx hb dL_water_3 rfl (lv_at hl 1 rfl) ?_
  refine wk_l (wc := [(h0, .inr (5, [.ref ai, .ref pu, .ref pa, .ref ga, .ref sc, .ref hi, .ref gr, .int (nI me), .int (nI dp), .int (bI up), .int (nI mi), .int (nI ru), .long wp, .long wl]))]) (own := RL) (E := "java/lang/IllegalArgumentException") hown (tableOf []) ⟨0, 8, 11, 15⟩ (tableOf []) (htab.trans rfl) (fun z hz => by cases hz) (by decide) (by decide) (hts (.classLink RL 15 "java/lang/IllegalArgumentException") (by decide +kernel)) hST.2.1.1.2.1 hP hD hS hA [0] rfl rfl (vx_runV (As := [.int x0]) (rest := [.int (nI 0), .ref ou]) ⟨hx, hb, hml, hown, hts⟩ (x_X5_water_0 l hlst D cI cJ cZ h0 ai pu pa ga sc hi gr me dp up mi ru wp wl x0 hbad H.size) (cwV 1 hts gL_water_X5_water rfl rfl rfl (by decide +kernel) ⟨Nat.le_of_ble_eq_true rfl, Nat.le_of_ble_eq_true rfl⟩) (pxV (wc := [(h0, .inr (5, [.ref ai, .ref pu, .ref pa, .ref ga, .ref sc, .ref hi, .ref gr, .int (nI me), .int (nI dp), .int (bI up), .int (nI mi), .int (nI ru), .long wp, .long wl]))]) hT hP hD hA [0] rfl rfl 0 rfl rfl hST hSQ hS) rfl rfl hl.1 rfl (lv_room (Nat.le_of_ble_eq_true rfl)) dL_water_4 ⟨Nat.le_of_ble_eq_true rfl, Nat.le_of_ble_eq_true rfl⟩) (fun q9 H locs hP hD hS => ?_)
  refine lv_astore_n (lv' := [(3, .ref q9), (0, .ref h0), (1, .int x0), (2, .ref ou)]) hx hb dL_water_11 rfl hl (by decide) rfl (fun ls hl => ?_)
  refine lv_iconst (v := nI 1) hx hb dL_water_12 (by decide) ?_
  exact vx_ret (fin_i hx hb hr hlocks hP hD hS rfl dL_water_13)
