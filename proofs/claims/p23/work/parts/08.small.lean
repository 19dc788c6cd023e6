/-! ===== gauges, the past, puts, scans ===== -/
def coF (UP CL : Nat → Bool) (CO : Nat → Int64) (ki : Nat) (w : Int64) : Nat → Int64 := if UP ki = true then uN CO ki (CO ki + if CL ki = true then w / 2 else w) else CO
def absL (x : Int64) : Int64 := if 0 < x then x else -x
def ahd (EC : Nat → Int64) (sm : Nat) (z : Int) : Int64 := if 0 ≤ z ∧ z < 20 then EC (20 * (sm - 2) + z.toNat) else 0
def dfS (EC : Nat → Int64) (sm : Nat) (st : Int) : Nat → Int64 | 0 => 0 | i + 1 => dfS EC sm st i + absL (EC (20 * (sm - 1) + i) - ahd EC sm ((i : Int) - st))
set_option maxHeartbeats 4000000 in
set_option maxRecDepth 100000 in
theorem c_X1_isKilometre (l : Launch) (D : va_G) (cI cJ cZ : ClassId) (ki : Nat) (hki : ki < 20) (sz : Nat) : Met l yX1_isKilometre wsX1_isKilometre ({ frames := 0, cells := 0, slots := 0, locals := 0 } : Room) (va_Pc [.int (nI ki)] (mPre D cI cJ cZ [] sz)) (Qi9 D (va_A [] sz) [] (bI true)) 0 0 (va_A [] sz) := by
  refine Met.ofW (cc := cX1_isKilometre) (maxL := 1) (ret := (some .boolean)) (by decide) rfl ?_
  intro p e s m args below meth c s₁ B hml hv
  obtain ⟨hargs, hsz, hP, hT, hD0⟩ := hv
  have hx := B.exec
  have hb := B.bytes
  have hr := B.returns
  have hts := atoms_spec (ws := wsX1_isKilometre) B.pre
  have hown : s.vm.findClass RX1 = some m.cls := findClass_of_methodNamed B.named
  have hlocks := B.notSynchronized
  subst hsz
  have hK := hT.1
  have hD := hD0.self (sz := s.heap.size)
  generalize hAe : va_A [] s.heap.size = A at hD ⊢
  have hA : ∀ q : Nat, s.heap.size ≤ q → A q := fun q h => by rw [← hAe]; exact Or.inr h
  have hS : va_S A s.heap s.heap [] := va_S.rf
  obtain ⟨H, hHe⟩ : ∃ H : Heap, H = s.heap := ⟨_, rfl⟩
  have hS : va_S A s.heap H [] := by rw [hHe]; exact va_S.rf
  rw [← hHe] at hP
  suffices K0 : W p l e (headSpec wsX1_isKilometre ({ frames := 0, cells := 0, slots := 0, locals := 0 } : Room)).room s m args below meth c H [] 0 0 (MQ below (Qi9 D A [] (bI true)) args s 0 0 A) (entryFrame m args 1) by rw [hHe] at K0; exact K0
  refine W.eq (g2 := entryFrame m ([.int (nI ki)] : List Value).toArray 1) (by rw [hargs]) ?_
  have hl := lv_entry ([.int (nI ki)]) (n := 1) (Nat.le_of_ble_eq_true rfl)
  rw [lg_entry_eq]
  generalize (lg_sl ([.int (nI ki)]) ++ List.replicate (1 - (lg_sl ([.int (nI ki)])).length) Slot.unset).toArray = ls at hl ⊢
  have hl : lv_has ls 1 [(0, .int (nI ki))] := hl
  generalize ([] : List Loc) = locs at hS ⊢
  refine lv_iload_n hx hb dX1_isKilometre_0 rfl (lv_at hl 0 rfl) ?_
  refine c0_lt (tgt := 14) hx hb dX1_isKilometre_1 (by decide) (nT (by omega)) (fun c_1 => by omega) (fun c_1 => ?_)
  refine lv_iload_n hx hb dX1_isKilometre_4 rfl (lv_at hl 0 rfl) ?_
  refine lv_bipush (v := nI 20) hx hb dX1_isKilometre_5 (by decide) ?_
  refine ci_ge (tgt := 14) hx hb dX1_isKilometre_7 (by decide) (nT (by omega)) (nT (by omega)) (fun c_7 => by omega) (fun c_7 => ?_)
  refine lv_iconst (v := nI 1) hx hb dX1_isKilometre_10 (by decide) ?_
  refine lv_goto (tgt := 15) hx hb dX1_isKilometre_11 (by decide) ?_
  exact fin_z hx hb hr hlocks hP hD hS (rfl) dX1_isKilometre_15
set_option maxHeartbeats 4000000 in
set_option maxRecDepth 100000 in
theorem c_X1_isUp (l : Launch) (D : va_G) (cI cJ cZ : ClassId) (h0 : Nat) (g1 : Nat) (g2 : Nat) (g3 : Nat) (UP : Nat → Bool) (CL : Nat → Bool) (CO : Nat → Int64) (ki : Nat) (hki : ki < 20) (sz : Nat) : Met l yX1_isUp wsX1_isUp ({ frames := 1, cells := 0, slots := 0, locals := 20 } : Room) (va_Pc [.ref h0, .int (nI ki)] (mPre D cI cJ cZ [(h0, .inr (1, [.ref g1, .ref g2, .ref g3])), (g1, .inl (cZ, 20, .inl (bA UP))), (g2, .inl (cZ, 20, .inl (bA CL))), (g3, .inl (cJ, 20, .inr (.inl CO)))] sz)) (Qi9 D (va_A [(h0, .inr (1, [.ref g1, .ref g2, .ref g3])), (g1, .inl (cZ, 20, .inl (bA UP))), (g2, .inl (cZ, 20, .inl (bA CL))), (g3, .inl (cJ, 20, .inr (.inl CO)))] sz) [(h0, .inr (1, [.ref g1, .ref g2, .ref g3])), (g1, .inl (cZ, 20, .inl (bA UP))), (g2, .inl (cZ, 20, .inl (bA CL))), (g3, .inl (cJ, 20, .inr (.inl CO)))] (bI (UP ki))) 0 0 (va_A [(h0, .inr (1, [.ref g1, .ref g2, .ref g3])), (g1, .inl (cZ, 20, .inl (bA UP))), (g2, .inl (cZ, 20, .inl (bA CL))), (g3, .inl (cJ, 20, .inr (.inl CO)))] sz) := by
  refine Met.ofW (cc := cX1_isUp) (maxL := 2) (ret := (some .boolean)) (by decide) rfl ?_
  intro p e s m args below meth c s₁ B hml hv
  obtain ⟨hargs, hsz, hP, hT, hD0⟩ := hv
  have hx := B.exec
  have hb := B.bytes
  have hr := B.returns
  have hts := atoms_spec (ws := wsX1_isUp) B.pre
  have hown : s.vm.findClass RX1 = some m.cls := findClass_of_methodNamed B.named
  have hlocks := B.notSynchronized
  subst hsz
  have hK := hT.1
  have hD := hD0.self (sz := s.heap.size)
  generalize hAe : va_A [(h0, .inr (1, [.ref g1, .ref g2, .ref g3])), (g1, .inl (cZ, 20, .inl (bA UP))), (g2, .inl (cZ, 20, .inl (bA CL))), (g3, .inl (cJ, 20, .inr (.inl CO)))] s.heap.size = A at hD ⊢
  have hA : ∀ q : Nat, s.heap.size ≤ q → A q := fun q h => by rw [← hAe]; exact Or.inr h
  have hS : va_S A s.heap s.heap [] := va_S.rf
  obtain ⟨H, hHe⟩ : ∃ H : Heap, H = s.heap := ⟨_, rfl⟩
  have hS : va_S A s.heap H [] := by rw [hHe]; exact va_S.rf
  rw [← hHe] at hP
  suffices K0 : W p l e (headSpec wsX1_isUp ({ frames := 1, cells := 0, slots := 0, locals := 20 } : Room)).room s m args below meth c H [] 0 0 (MQ below (Qi9 D A [(h0, .inr (1, [.ref g1, .ref g2, .ref g3])), (g1, .inl (cZ, 20, .inl (bA UP))), (g2, .inl (cZ, 20, .inl (bA CL))), (g3, .inl (cJ, 20, .inr (.inl CO)))] (bI (UP ki))) args s 0 0 A) (entryFrame m args 2) by rw [hHe] at K0; exact K0
  refine W.eq (g2 := entryFrame m ([.ref h0, .int (nI ki)] : List Value).toArray 2) (by rw [hargs]) ?_
  have hl := lv_entry ([.ref h0, .int (nI ki)]) (n := 2) (Nat.le_of_ble_eq_true rfl)
  rw [lg_entry_eq]
  generalize (lg_sl ([.ref h0, .int (nI ki)]) ++ List.replicate (2 - (lg_sl ([.ref h0, .int (nI ki)])).length) Slot.unset).toArray = ls at hl ⊢
  have hl : lv_has ls 2 [(0, .ref h0), (1, .int (nI ki))] := hl
  generalize ([] : List Loc) = locs at hS ⊢
  have hinX1 : ∀ w ∈ wsX10, w ∈ wsX1_isUp := by decide +kernel
  have hf9 := hts (.fieldLink RX1 9 "Brightband$Gauges" "ups" "[Z") (by decide +kernel)
  refine lv_iload_n hx hb dX1_isUp_0 rfl (lv_at hl 1 rfl) ?_
  refine cr_i (wc := []) (w1 := []) (ws2 := [(h0, .inr (1, [.ref g1, .ref g2, .ref g3])), (g1, .inl (cZ, 20, .inl (bA UP))), (g2, .inl (cZ, 20, .inl (bA CL))), (g3, .inl (cJ, 20, .inr (.inl CO)))]) hP hD hS hA [] rfl rfl rfl (va_runS (As := [.int (nI ki)]) (rest := []) ⟨hx, hb, hml, hown, hts⟩ (c_X1_isKilometre l D cI cJ cZ ki (by omega) H.size) (va_cwS 1 hts gX1_isUp_X1_isKilometre rfl rfl rfl (by decide +kernel) ⟨Nat.le_of_ble_eq_true rfl, Nat.le_of_ble_eq_true rfl⟩) (pvS hT hP hD [] rfl rfl) rfl rfl hl.1 rfl (lv_room (Nat.le_of_ble_eq_true rfl)) dX1_isUp_1 ⟨Nat.zero_le _, Nat.zero_le _⟩) (fun H locs hP hD hS => ?_)
  refine cb_eq (tgt := 20) hx hb dX1_isUp_4 (by decide) (fun c_4 => absurd c_4 (by decide)) (fun c_4 => ?_)
  refine lv_aload_n hx hb dX1_isUp_7 rfl (lv_at hl 0 rfl) ?_
  refine va_get (D := D) (ci := 1) (v := .ref g1) (C := RX1) (T := TX1) (N := 3) hx hb hts hinX1 hown hK hP 0 rfl rfl 0 (by decide) hf9 (fun _ h9 => h9) rfl dX1_isUp_8 ?_
  refine lv_iload_n hx hb dX1_isUp_11 rfl (lv_at hl 1 rfl) ?_
  refine ald_B hx hb hK hP 1 2 rfl rfl ki rfl (by omega) (Nat.le_of_ble_eq_true rfl) dX1_isUp_12 ?_
  refine cb_eq (tgt := 20) hx hb dX1_isUp_13 (by decide) (fun c_13 => ?_) (fun c_13 => ?_)
  · refine lv_iconst (v := nI 0) hx hb dX1_isUp_20 (by decide) ?_
    exact fin_z hx hb hr hlocks hP hD hS (by rw [c_13]; rfl) dX1_isUp_21
  · refine lv_iconst (v := nI 1) hx hb dX1_isUp_16 (by decide) ?_
    refine lv_goto (tgt := 21) hx hb dX1_isUp_17 (by decide) ?_
    exact fin_z hx hb hr hlocks hP hD hS (by rw [c_13]; rfl) dX1_isUp_21
set_option maxHeartbeats 4000000 in
set_option maxRecDepth 100000 in
theorem c_X1_isClogged (l : Launch) (D : va_G) (cI cJ cZ : ClassId) (h0 : Nat) (g1 : Nat) (g2 : Nat) (g3 : Nat) (UP : Nat → Bool) (CL : Nat → Bool) (CO : Nat → Int64) (ki : Nat) (hki : ki < 20) (sz : Nat) : Met l yX1_isClogged wsX1_isClogged ({ frames := 1, cells := 0, slots := 0, locals := 20 } : Room) (va_Pc [.ref h0, .int (nI ki)] (mPre D cI cJ cZ [(h0, .inr (1, [.ref g1, .ref g2, .ref g3])), (g1, .inl (cZ, 20, .inl (bA UP))), (g2, .inl (cZ, 20, .inl (bA CL))), (g3, .inl (cJ, 20, .inr (.inl CO)))] sz)) (Qi9 D (va_A [(h0, .inr (1, [.ref g1, .ref g2, .ref g3])), (g1, .inl (cZ, 20, .inl (bA UP))), (g2, .inl (cZ, 20, .inl (bA CL))), (g3, .inl (cJ, 20, .inr (.inl CO)))] sz) [(h0, .inr (1, [.ref g1, .ref g2, .ref g3])), (g1, .inl (cZ, 20, .inl (bA UP))), (g2, .inl (cZ, 20, .inl (bA CL))), (g3, .inl (cJ, 20, .inr (.inl CO)))] (bI (CL ki))) 0 0 (va_A [(h0, .inr (1, [.ref g1, .ref g2, .ref g3])), (g1, .inl (cZ, 20, .inl (bA UP))), (g2, .inl (cZ, 20, .inl (bA CL))), (g3, .inl (cJ, 20, .inr (.inl CO)))] sz) := by
  refine Met.ofW (cc := cX1_isClogged) (maxL := 2) (ret := (some .boolean)) (by decide) rfl ?_
  intro p e s m args below meth c s₁ B hml hv
  obtain ⟨hargs, hsz, hP, hT, hD0⟩ := hv
  have hx := B.exec
  have hb := B.bytes
  have hr := B.returns
  have hts := atoms_spec (ws := wsX1_isClogged) B.pre
  have hown : s.vm.findClass RX1 = some m.cls := findClass_of_methodNamed B.named
  have hlocks := B.notSynchronized
  subst hsz
  have hK := hT.1
  have hD := hD0.self (sz := s.heap.size)
  generalize hAe : va_A [(h0, .inr (1, [.ref g1, .ref g2, .ref g3])), (g1, .inl (cZ, 20, .inl (bA UP))), (g2, .inl (cZ, 20, .inl (bA CL))), (g3, .inl (cJ, 20, .inr (.inl CO)))] s.heap.size = A at hD ⊢
  have hA : ∀ q : Nat, s.heap.size ≤ q → A q := fun q h => by rw [← hAe]; exact Or.inr h
  have hS : va_S A s.heap s.heap [] := va_S.rf
  obtain ⟨H, hHe⟩ : ∃ H : Heap, H = s.heap := ⟨_, rfl⟩
  have hS : va_S A s.heap H [] := by rw [hHe]; exact va_S.rf
  rw [← hHe] at hP
  suffices K0 : W p l e (headSpec wsX1_isClogged ({ frames := 1, cells := 0, slots := 0, locals := 20 } : Room)).room s m args below meth c H [] 0 0 (MQ below (Qi9 D A [(h0, .inr (1, [.ref g1, .ref g2, .ref g3])), (g1, .inl (cZ, 20, .inl (bA UP))), (g2, .inl (cZ, 20, .inl (bA CL))), (g3, .inl (cJ, 20, .inr (.inl CO)))] (bI (CL ki))) args s 0 0 A) (entryFrame m args 2) by rw [hHe] at K0; exact K0
  refine W.eq (g2 := entryFrame m ([.ref h0, .int (nI ki)] : List Value).toArray 2) (by rw [hargs]) ?_
  have hl := lv_entry ([.ref h0, .int (nI ki)]) (n := 2) (Nat.le_of_ble_eq_true rfl)
  rw [lg_entry_eq]
  generalize (lg_sl ([.ref h0, .int (nI ki)]) ++ List.replicate (2 - (lg_sl ([.ref h0, .int (nI ki)])).length) Slot.unset).toArray = ls at hl ⊢
  have hl : lv_has ls 2 [(0, .ref h0), (1, .int (nI ki))] := hl
  generalize ([] : List Loc) = locs at hS ⊢
  have hinX1 : ∀ w ∈ wsX10, w ∈ wsX1_isClogged := by decide +kernel
  have hf15 := hts (.fieldLink RX1 15 "Brightband$Gauges" "clogs" "[Z") (by decide +kernel)
  refine lv_iload_n hx hb dX1_isClogged_0 rfl (lv_at hl 1 rfl) ?_
  refine cr_i (wc := []) (w1 := []) (ws2 := [(h0, .inr (1, [.ref g1, .ref g2, .ref g3])), (g1, .inl (cZ, 20, .inl (bA UP))), (g2, .inl (cZ, 20, .inl (bA CL))), (g3, .inl (cJ, 20, .inr (.inl CO)))]) hP hD hS hA [] rfl rfl rfl (va_runS (As := [.int (nI ki)]) (rest := []) ⟨hx, hb, hml, hown, hts⟩ (c_X1_isKilometre l D cI cJ cZ ki (by omega) H.size) (va_cwS 1 hts gX1_isClogged_X1_isKilometre rfl rfl rfl (by decide +kernel) ⟨Nat.le_of_ble_eq_true rfl, Nat.le_of_ble_eq_true rfl⟩) (pvS hT hP hD [] rfl rfl) rfl rfl hl.1 rfl (lv_room (Nat.le_of_ble_eq_true rfl)) dX1_isClogged_1 ⟨Nat.zero_le _, Nat.zero_le _⟩) (fun H locs hP hD hS => ?_)
  refine cb_eq (tgt := 20) hx hb dX1_isClogged_4 (by decide) (fun c_4 => absurd c_4 (by decide)) (fun c_4 => ?_)
  refine lv_aload_n hx hb dX1_isClogged_7 rfl (lv_at hl 0 rfl) ?_
  refine va_get (D := D) (ci := 1) (v := .ref g2) (C := RX1) (T := TX1) (N := 3) hx hb hts hinX1 hown hK hP 0 rfl rfl 1 (by decide) hf15 (fun _ h9 => h9) rfl dX1_isClogged_8 ?_
  refine lv_iload_n hx hb dX1_isClogged_11 rfl (lv_at hl 1 rfl) ?_
  refine ald_B hx hb hK hP 2 2 rfl rfl ki rfl (by omega) (Nat.le_of_ble_eq_true rfl) dX1_isClogged_12 ?_
  refine cb_eq (tgt := 20) hx hb dX1_isClogged_13 (by decide) (fun c_13 => ?_) (fun c_13 => ?_)
  · refine lv_iconst (v := nI 0) hx hb dX1_isClogged_20 (by decide) ?_
    exact fin_z hx hb hr hlocks hP hD hS (by rw [c_13]; rfl) dX1_isClogged_21
  · refine lv_iconst (v := nI 1) hx hb dX1_isClogged_16 (by decide) ?_
    refine lv_goto (tgt := 21) hx hb dX1_isClogged_17 (by decide) ?_
    exact fin_z hx hb hr hlocks hP hD hS (by rw [c_13]; rfl) dX1_isClogged_21
set_option maxHeartbeats 4000000 in
set_option maxRecDepth 100000 in
theorem c_X1_contentOf (l : Launch) (D : va_G) (cI cJ cZ : ClassId) (h0 : Nat) (g1 : Nat) (g2 : Nat) (g3 : Nat) (UP : Nat → Bool) (CL : Nat → Bool) (CO : Nat → Int64) (ki : Nat) (hki : ki < 20) (sz : Nat) : Met l yX1_contentOf wsX1_contentOf ({ frames := 1, cells := 0, slots := 0, locals := 20 } : Room) (va_Pc [.ref h0, .int (nI ki)] (mPre D cI cJ cZ [(h0, .inr (1, [.ref g1, .ref g2, .ref g3])), (g1, .inl (cZ, 20, .inl (bA UP))), (g2, .inl (cZ, 20, .inl (bA CL))), (g3, .inl (cJ, 20, .inr (.inl CO)))] sz)) (Ql9 D (va_A [(h0, .inr (1, [.ref g1, .ref g2, .ref g3])), (g1, .inl (cZ, 20, .inl (bA UP))), (g2, .inl (cZ, 20, .inl (bA CL))), (g3, .inl (cJ, 20, .inr (.inl CO)))] sz) [(h0, .inr (1, [.ref g1, .ref g2, .ref g3])), (g1, .inl (cZ, 20, .inl (bA UP))), (g2, .inl (cZ, 20, .inl (bA CL))), (g3, .inl (cJ, 20, .inr (.inl CO)))] (CO ki)) 0 0 (va_A [(h0, .inr (1, [.ref g1, .ref g2, .ref g3])), (g1, .inl (cZ, 20, .inl (bA UP))), (g2, .inl (cZ, 20, .inl (bA CL))), (g3, .inl (cJ, 20, .inr (.inl CO)))] sz) := by
  refine Met.ofW (cc := cX1_contentOf) (maxL := 2) (ret := (some .long)) (by decide) rfl ?_
  intro p e s m args below meth c s₁ B hml hv
  obtain ⟨hargs, hsz, hP, hT, hD0⟩ := hv
  have hx := B.exec
  have hb := B.bytes
  have hr := B.returns
  have hts := atoms_spec (ws := wsX1_contentOf) B.pre
  have hown : s.vm.findClass RX1 = some m.cls := findClass_of_methodNamed B.named
  have hlocks := B.notSynchronized
  subst hsz
  have hK := hT.1
  have hD := hD0.self (sz := s.heap.size)
  generalize hAe : va_A [(h0, .inr (1, [.ref g1, .ref g2, .ref g3])), (g1, .inl (cZ, 20, .inl (bA UP))), (g2, .inl (cZ, 20, .inl (bA CL))), (g3, .inl (cJ, 20, .inr (.inl CO)))] s.heap.size = A at hD ⊢
  have hA : ∀ q : Nat, s.heap.size ≤ q → A q := fun q h => by rw [← hAe]; exact Or.inr h
  have hS : va_S A s.heap s.heap [] := va_S.rf
  obtain ⟨H, hHe⟩ : ∃ H : Heap, H = s.heap := ⟨_, rfl⟩
  have hS : va_S A s.heap H [] := by rw [hHe]; exact va_S.rf
  rw [← hHe] at hP
  suffices K0 : W p l e (headSpec wsX1_contentOf ({ frames := 1, cells := 0, slots := 0, locals := 20 } : Room)).room s m args below meth c H [] 0 0 (MQ below (Ql9 D A [(h0, .inr (1, [.ref g1, .ref g2, .ref g3])), (g1, .inl (cZ, 20, .inl (bA UP))), (g2, .inl (cZ, 20, .inl (bA CL))), (g3, .inl (cJ, 20, .inr (.inl CO)))] (CO ki)) args s 0 0 A) (entryFrame m args 2) by rw [hHe] at K0; exact K0
  refine W.eq (g2 := entryFrame m ([.ref h0, .int (nI ki)] : List Value).toArray 2) (by rw [hargs]) ?_
  have hl := lv_entry ([.ref h0, .int (nI ki)]) (n := 2) (Nat.le_of_ble_eq_true rfl)
  rw [lg_entry_eq]
  generalize (lg_sl ([.ref h0, .int (nI ki)]) ++ List.replicate (2 - (lg_sl ([.ref h0, .int (nI ki)])).length) Slot.unset).toArray = ls at hl ⊢
  have hl : lv_has ls 2 [(0, .ref h0), (1, .int (nI ki))] := hl
  generalize ([] : List Loc) = locs at hS ⊢
  have hinX1 : ∀ w ∈ wsX10, w ∈ wsX1_contentOf := by decide +kernel
  have hf18 := hts (.fieldLink RX1 18 "Brightband$Gauges" "contents" "[J") (by decide +kernel)
  refine lv_iload_n hx hb dX1_contentOf_0 rfl (lv_at hl 1 rfl) ?_
  refine cr_i (wc := []) (w1 := []) (ws2 := [(h0, .inr (1, [.ref g1, .ref g2, .ref g3])), (g1, .inl (cZ, 20, .inl (bA UP))), (g2, .inl (cZ, 20, .inl (bA CL))), (g3, .inl (cJ, 20, .inr (.inl CO)))]) hP hD hS hA [] rfl rfl rfl (va_runS (As := [.int (nI ki)]) (rest := []) ⟨hx, hb, hml, hown, hts⟩ (c_X1_isKilometre l D cI cJ cZ ki (by omega) H.size) (va_cwS 1 hts gX1_contentOf_X1_isKilometre rfl rfl rfl (by decide +kernel) ⟨Nat.le_of_ble_eq_true rfl, Nat.le_of_ble_eq_true rfl⟩) (pvS hT hP hD [] rfl rfl) rfl rfl hl.1 rfl (lv_room (Nat.le_of_ble_eq_true rfl)) dX1_contentOf_1 ⟨Nat.zero_le _, Nat.zero_le _⟩) (fun H locs hP hD hS => ?_)
  refine cb_eq (tgt := 16) hx hb dX1_contentOf_4 (by decide) (fun c_4 => absurd c_4 (by decide)) (fun c_4 => ?_)
  refine lv_aload_n hx hb dX1_contentOf_7 rfl (lv_at hl 0 rfl) ?_
  refine va_get (D := D) (ci := 1) (v := .ref g3) (C := RX1) (T := TX1) (N := 3) hx hb hts hinX1 hown hK hP 0 rfl rfl 2 (by decide) hf18 (fun _ h9 => h9) rfl dX1_contentOf_8 ?_
  refine lv_iload_n hx hb dX1_contentOf_11 rfl (lv_at hl 1 rfl) ?_
  refine ald_L hx hb hK hP 3 1 rfl rfl ki rfl (by omega) (Nat.le_of_ble_eq_true rfl) dX1_contentOf_12 ?_
  refine lv_goto (tgt := 17) hx hb dX1_contentOf_13 (by decide) ?_
  exact fin_l hx hb hr hlocks hP hD hS (rfl) dX1_contentOf_17
set_option maxHeartbeats 4000000 in
set_option maxRecDepth 100000 in
theorem c_X1_change (l : Launch) (D : va_G) (cI cJ cZ : ClassId) (h0 : Nat) (g1 : Nat) (g2 : Nat) (g3 : Nat) (UP : Nat → Bool) (CL : Nat → Bool) (CO : Nat → Int64) (ki : Nat) (bb : Bool) (hki : ki < 20) (sz : Nat) : Met l yX1_change wsX1_change ({ frames := 1, cells := 0, slots := 0, locals := 20 } : Room) (va_Pc [.ref h0, .int (nI ki), .int (bI bb)] (mPre D cI cJ cZ [(h0, .inr (1, [.ref g1, .ref g2, .ref g3])), (g1, .inl (cZ, 20, .inl (bA UP))), (g2, .inl (cZ, 20, .inl (bA CL))), (g3, .inl (cJ, 20, .inr (.inl CO)))] sz)) (Qv9 D (va_A [(h0, .inr (1, [.ref g1, .ref g2, .ref g3])), (g1, .inl (cZ, 20, .inl (bA UP))), (g2, .inl (cZ, 20, .inl (bA CL))), (g3, .inl (cJ, 20, .inr (.inl CO)))] sz) [(h0, .inr (1, [.ref g1, .ref g2, .ref g3])), (g1, .inl (cZ, 20, .inl (bA (uN UP ki bb)))), (g2, .inl (cZ, 20, .inl (bA (uN CL ki false)))), (g3, .inl (cJ, 20, .inr (.inl (uN CO ki 0))))]) 0 0 (va_A [(h0, .inr (1, [.ref g1, .ref g2, .ref g3])), (g1, .inl (cZ, 20, .inl (bA UP))), (g2, .inl (cZ, 20, .inl (bA CL))), (g3, .inl (cJ, 20, .inr (.inl CO)))] sz) := by
  refine Met.ofW (cc := cX1_change) (maxL := 3) (ret := none) (by decide) rfl ?_
  intro p e s m args below meth c s₁ B hml hv
  obtain ⟨hargs, hsz, hP, hT, hD0⟩ := hv
  have hx := B.exec
  have hb := B.bytes
  have hr := B.returns
  have hts := atoms_spec (ws := wsX1_change) B.pre
  have hown : s.vm.findClass RX1 = some m.cls := findClass_of_methodNamed B.named
  have hlocks := B.notSynchronized
  subst hsz
  have hK := hT.1
  have hD := hD0.self (sz := s.heap.size)
  generalize hAe : va_A [(h0, .inr (1, [.ref g1, .ref g2, .ref g3])), (g1, .inl (cZ, 20, .inl (bA UP))), (g2, .inl (cZ, 20, .inl (bA CL))), (g3, .inl (cJ, 20, .inr (.inl CO)))] s.heap.size = A at hD ⊢
  have hA : ∀ q : Nat, s.heap.size ≤ q → A q := fun q h => by rw [← hAe]; exact Or.inr h
  have hS : va_S A s.heap s.heap [] := va_S.rf
  obtain ⟨H, hHe⟩ : ∃ H : Heap, H = s.heap := ⟨_, rfl⟩
  have hS : va_S A s.heap H [] := by rw [hHe]; exact va_S.rf
  rw [← hHe] at hP
  suffices K0 : W p l e (headSpec wsX1_change ({ frames := 1, cells := 0, slots := 0, locals := 20 } : Room)).room s m args below meth c H [] 0 0 (MQ below (Qv9 D A [(h0, .inr (1, [.ref g1, .ref g2, .ref g3])), (g1, .inl (cZ, 20, .inl (bA (uN UP ki bb)))), (g2, .inl (cZ, 20, .inl (bA (uN CL ki false)))), (g3, .inl (cJ, 20, .inr (.inl (uN CO ki 0))))]) args s 0 0 A) (entryFrame m args 3) by rw [hHe] at K0; exact K0
  refine W.eq (g2 := entryFrame m ([.ref h0, .int (nI ki), .int (bI bb)] : List Value).toArray 3) (by rw [hargs]) ?_
  have hl := lv_entry ([.ref h0, .int (nI ki), .int (bI bb)]) (n := 3) (Nat.le_of_ble_eq_true rfl)
  rw [lg_entry_eq]
  generalize (lg_sl ([.ref h0, .int (nI ki), .int (bI bb)]) ++ List.replicate (3 - (lg_sl ([.ref h0, .int (nI ki), .int (bI bb)])).length) Slot.unset).toArray = ls at hl ⊢
  have hl : lv_has ls 3 [(0, .ref h0), (1, .int (nI ki)), (2, .int (bI bb))] := hl
  generalize ([] : List Loc) = locs at hS ⊢
  have hinX1 : ∀ w ∈ wsX10, w ∈ wsX1_change := by decide +kernel
  have hf9 := hts (.fieldLink RX1 9 "Brightband$Gauges" "ups" "[Z") (by decide +kernel)
  have hf15 := hts (.fieldLink RX1 15 "Brightband$Gauges" "clogs" "[Z") (by decide +kernel)
  have hf18 := hts (.fieldLink RX1 18 "Brightband$Gauges" "contents" "[J") (by decide +kernel)
  refine lv_iload_n hx hb dX1_change_0 rfl (lv_at hl 1 rfl) ?_
  refine cr_i (wc := []) (w1 := []) (ws2 := [(h0, .inr (1, [.ref g1, .ref g2, .ref g3])), (g1, .inl (cZ, 20, .inl (bA UP))), (g2, .inl (cZ, 20, .inl (bA CL))), (g3, .inl (cJ, 20, .inr (.inl CO)))]) hP hD hS hA [] rfl rfl rfl (va_runS (As := [.int (nI ki)]) (rest := []) ⟨hx, hb, hml, hown, hts⟩ (c_X1_isKilometre l D cI cJ cZ ki (by omega) H.size) (va_cwS 1 hts gX1_change_X1_isKilometre rfl rfl rfl (by decide +kernel) ⟨Nat.le_of_ble_eq_true rfl, Nat.le_of_ble_eq_true rfl⟩) (pvS hT hP hD [] rfl rfl) rfl rfl hl.1 rfl (lv_room (Nat.le_of_ble_eq_true rfl)) dX1_change_1 ⟨Nat.zero_le _, Nat.zero_le _⟩) (fun H locs hP hD hS => ?_)
  refine cb_eq (tgt := 28) hx hb dX1_change_4 (by decide) (fun c_4 => absurd c_4 (by decide)) (fun c_4 => ?_)
  refine lv_aload_n hx hb dX1_change_7 rfl (lv_at hl 0 rfl) ?_
  refine va_get (D := D) (ci := 1) (v := .ref g1) (C := RX1) (T := TX1) (N := 3) hx hb hts hinX1 hown hK hP 0 rfl rfl 0 (by decide) hf9 (fun _ h9 => h9) rfl dX1_change_8 ?_
  refine lv_iload_n hx hb dX1_change_11 rfl (lv_at hl 1 rfl) ?_
  refine lv_iload_n hx hb dX1_change_12 rfl (lv_at hl 2 rfl) ?_
  refine ast_B (x := bb) hx hb hK hP hD hS 1 2 rfl rfl ki rfl (by omega) (Nat.le_of_ble_eq_true rfl) dX1_change_13 (fun H locs hP hD hS => ?_)
  have hP : va_P D vwCl [(h0, .inr (1, [.ref g1, .ref g2, .ref g3])), (g1, .inl (cZ, 20, .inl (bA (uN UP ki bb)))), (g2, .inl (cZ, 20, .inl (bA CL))), (g3, .inl (cJ, 20, .inr (.inl CO)))] H := hP
  have hD : va_D A [(h0, .inr (1, [.ref g1, .ref g2, .ref g3])), (g1, .inl (cZ, 20, .inl (bA (uN UP ki bb)))), (g2, .inl (cZ, 20, .inl (bA CL))), (g3, .inl (cJ, 20, .inr (.inl CO)))] := hD
  refine lv_aload_n hx hb dX1_change_14 rfl (lv_at hl 0 rfl) ?_
  refine va_get (D := D) (ci := 1) (v := .ref g2) (C := RX1) (T := TX1) (N := 3) hx hb hts hinX1 hown hK hP 0 rfl rfl 1 (by decide) hf15 (fun _ h9 => h9) rfl dX1_change_15 ?_
  refine lv_iload_n hx hb dX1_change_18 rfl (lv_at hl 1 rfl) ?_
  refine lv_iconst (v := nI 0) hx hb dX1_change_19 (by decide) ?_
  refine ast_B (x := false) hx hb hK hP hD hS 2 2 rfl rfl ki rfl (by omega) (Nat.le_of_ble_eq_true rfl) dX1_change_20 (fun H locs hP hD hS => ?_)
  have hP : va_P D vwCl [(h0, .inr (1, [.ref g1, .ref g2, .ref g3])), (g1, .inl (cZ, 20, .inl (bA (uN UP ki bb)))), (g2, .inl (cZ, 20, .inl (bA (uN CL ki false)))), (g3, .inl (cJ, 20, .inr (.inl CO)))] H := hP
  have hD : va_D A [(h0, .inr (1, [.ref g1, .ref g2, .ref g3])), (g1, .inl (cZ, 20, .inl (bA (uN UP ki bb)))), (g2, .inl (cZ, 20, .inl (bA (uN CL ki false)))), (g3, .inl (cJ, 20, .inr (.inl CO)))] := hD
  refine lv_aload_n hx hb dX1_change_21 rfl (lv_at hl 0 rfl) ?_
  refine va_get (D := D) (ci := 1) (v := .ref g3) (C := RX1) (T := TX1) (N := 3) hx hb hts hinX1 hown hK hP 0 rfl rfl 2 (by decide) hf18 (fun _ h9 => h9) rfl dX1_change_22 ?_
  refine lv_iload_n hx hb dX1_change_25 rfl (lv_at hl 1 rfl) ?_
  refine lv_lconst (v := 0) hx hb dX1_change_26 (by decide) ?_
  refine ast_L (x := 0) hx hb hK hP hD hS 3 1 rfl rfl ki rfl (by omega) (Nat.le_of_ble_eq_true rfl) dX1_change_27 (fun H locs hP hD hS => ?_)
  have hP : va_P D vwCl [(h0, .inr (1, [.ref g1, .ref g2, .ref g3])), (g1, .inl (cZ, 20, .inl (bA (uN UP ki bb)))), (g2, .inl (cZ, 20, .inl (bA (uN CL ki false)))), (g3, .inl (cJ, 20, .inr (.inl (uN CO ki 0))))] H := hP
  have hD : va_D A [(h0, .inr (1, [.ref g1, .ref g2, .ref g3])), (g1, .inl (cZ, 20, .inl (bA (uN UP ki bb)))), (g2, .inl (cZ, 20, .inl (bA (uN CL ki false)))), (g3, .inl (cJ, 20, .inr (.inl (uN CO ki 0))))] := hD
  exact fin_v hx hb hr hlocks hP hD hS dX1_change_28
set_option maxHeartbeats 4000000 in
set_option maxRecDepth 100000 in
theorem c_X1_setClogged (l : Launch) (D : va_G) (cI cJ cZ : ClassId) (h0 : Nat) (g1 : Nat) (g2 : Nat) (g3 : Nat) (UP : Nat → Bool) (CL : Nat → Bool) (CO : Nat → Int64) (ki : Nat) (bb : Bool) (hki : ki < 20) (sz : Nat) : Met l yX1_setClogged wsX1_setClogged ({ frames := 1, cells := 0, slots := 0, locals := 20 } : Room) (va_Pc [.ref h0, .int (nI ki), .int (bI bb)] (mPre D cI cJ cZ [(h0, .inr (1, [.ref g1, .ref g2, .ref g3])), (g1, .inl (cZ, 20, .inl (bA UP))), (g2, .inl (cZ, 20, .inl (bA CL))), (g3, .inl (cJ, 20, .inr (.inl CO)))] sz)) (Qv9 D (va_A [(h0, .inr (1, [.ref g1, .ref g2, .ref g3])), (g1, .inl (cZ, 20, .inl (bA UP))), (g2, .inl (cZ, 20, .inl (bA CL))), (g3, .inl (cJ, 20, .inr (.inl CO)))] sz) [(h0, .inr (1, [.ref g1, .ref g2, .ref g3])), (g1, .inl (cZ, 20, .inl (bA UP))), (g2, .inl (cZ, 20, .inl (bA (uN CL ki bb)))), (g3, .inl (cJ, 20, .inr (.inl CO)))]) 0 0 (va_A [(h0, .inr (1, [.ref g1, .ref g2, .ref g3])), (g1, .inl (cZ, 20, .inl (bA UP))), (g2, .inl (cZ, 20, .inl (bA CL))), (g3, .inl (cJ, 20, .inr (.inl CO)))] sz) := by
  refine Met.ofW (cc := cX1_setClogged) (maxL := 3) (ret := none) (by decide) rfl ?_
  intro p e s m args below meth c s₁ B hml hv
  obtain ⟨hargs, hsz, hP, hT, hD0⟩ := hv
  have hx := B.exec
  have hb := B.bytes
  have hr := B.returns
  have hts := atoms_spec (ws := wsX1_setClogged) B.pre
  have hown : s.vm.findClass RX1 = some m.cls := findClass_of_methodNamed B.named
  have hlocks := B.notSynchronized
  subst hsz
  have hK := hT.1
  have hD := hD0.self (sz := s.heap.size)
  generalize hAe : va_A [(h0, .inr (1, [.ref g1, .ref g2, .ref g3])), (g1, .inl (cZ, 20, .inl (bA UP))), (g2, .inl (cZ, 20, .inl (bA CL))), (g3, .inl (cJ, 20, .inr (.inl CO)))] s.heap.size = A at hD ⊢
  have hA : ∀ q : Nat, s.heap.size ≤ q → A q := fun q h => by rw [← hAe]; exact Or.inr h
  have hS : va_S A s.heap s.heap [] := va_S.rf
  obtain ⟨H, hHe⟩ : ∃ H : Heap, H = s.heap := ⟨_, rfl⟩
  have hS : va_S A s.heap H [] := by rw [hHe]; exact va_S.rf
  rw [← hHe] at hP
  suffices K0 : W p l e (headSpec wsX1_setClogged ({ frames := 1, cells := 0, slots := 0, locals := 20 } : Room)).room s m args below meth c H [] 0 0 (MQ below (Qv9 D A [(h0, .inr (1, [.ref g1, .ref g2, .ref g3])), (g1, .inl (cZ, 20, .inl (bA UP))), (g2, .inl (cZ, 20, .inl (bA (uN CL ki bb)))), (g3, .inl (cJ, 20, .inr (.inl CO)))]) args s 0 0 A) (entryFrame m args 3) by rw [hHe] at K0; exact K0
  refine W.eq (g2 := entryFrame m ([.ref h0, .int (nI ki), .int (bI bb)] : List Value).toArray 3) (by rw [hargs]) ?_
  have hl := lv_entry ([.ref h0, .int (nI ki), .int (bI bb)]) (n := 3) (Nat.le_of_ble_eq_true rfl)
  rw [lg_entry_eq]
  generalize (lg_sl ([.ref h0, .int (nI ki), .int (bI bb)]) ++ List.replicate (3 - (lg_sl ([.ref h0, .int (nI ki), .int (bI bb)])).length) Slot.unset).toArray = ls at hl ⊢
  have hl : lv_has ls 3 [(0, .ref h0), (1, .int (nI ki)), (2, .int (bI bb))] := hl
  generalize ([] : List Loc) = locs at hS ⊢
  have hinX1 : ∀ w ∈ wsX10, w ∈ wsX1_setClogged := by decide +kernel
  have hf15 := hts (.fieldLink RX1 15 "Brightband$Gauges" "clogs" "[Z") (by decide +kernel)
  refine lv_iload_n hx hb dX1_setClogged_0 rfl (lv_at hl 1 rfl) ?_
  refine cr_i (wc := []) (w1 := []) (ws2 := [(h0, .inr (1, [.ref g1, .ref g2, .ref g3])), (g1, .inl (cZ, 20, .inl (bA UP))), (g2, .inl (cZ, 20, .inl (bA CL))), (g3, .inl (cJ, 20, .inr (.inl CO)))]) hP hD hS hA [] rfl rfl rfl (va_runS (As := [.int (nI ki)]) (rest := []) ⟨hx, hb, hml, hown, hts⟩ (c_X1_isKilometre l D cI cJ cZ ki (by omega) H.size) (va_cwS 1 hts gX1_setClogged_X1_isKilometre rfl rfl rfl (by decide +kernel) ⟨Nat.le_of_ble_eq_true rfl, Nat.le_of_ble_eq_true rfl⟩) (pvS hT hP hD [] rfl rfl) rfl rfl hl.1 rfl (lv_room (Nat.le_of_ble_eq_true rfl)) dX1_setClogged_1 ⟨Nat.zero_le _, Nat.zero_le _⟩) (fun H locs hP hD hS => ?_)
  refine cb_eq (tgt := 14) hx hb dX1_setClogged_4 (by decide) (fun c_4 => absurd c_4 (by decide)) (fun c_4 => ?_)
  refine lv_aload_n hx hb dX1_setClogged_7 rfl (lv_at hl 0 rfl) ?_
  refine va_get (D := D) (ci := 1) (v := .ref g2) (C := RX1) (T := TX1) (N := 3) hx hb hts hinX1 hown hK hP 0 rfl rfl 1 (by decide) hf15 (fun _ h9 => h9) rfl dX1_setClogged_8 ?_
  refine lv_iload_n hx hb dX1_setClogged_11 rfl (lv_at hl 1 rfl) ?_
  refine lv_iload_n hx hb dX1_setClogged_12 rfl (lv_at hl 2 rfl) ?_
  refine ast_B (x := bb) hx hb hK hP hD hS 2 2 rfl rfl ki rfl (by omega) (Nat.le_of_ble_eq_true rfl) dX1_setClogged_13 (fun H locs hP hD hS => ?_)
  have hP : va_P D vwCl [(h0, .inr (1, [.ref g1, .ref g2, .ref g3])), (g1, .inl (cZ, 20, .inl (bA UP))), (g2, .inl (cZ, 20, .inl (bA (uN CL ki bb)))), (g3, .inl (cJ, 20, .inr (.inl CO)))] H := hP
  have hD : va_D A [(h0, .inr (1, [.ref g1, .ref g2, .ref g3])), (g1, .inl (cZ, 20, .inl (bA UP))), (g2, .inl (cZ, 20, .inl (bA (uN CL ki bb)))), (g3, .inl (cJ, 20, .inr (.inl CO)))] := hD
  exact fin_v hx hb hr hlocks hP hD hS dX1_setClogged_14
set_option maxHeartbeats 4000000 in
set_option maxRecDepth 100000 in
theorem c_X1_collect (l : Launch) (D : va_G) (cI cJ cZ : ClassId) (h0 : Nat) (g1 : Nat) (g2 : Nat) (g3 : Nat) (UP : Nat → Bool) (CL : Nat → Bool) (CO : Nat → Int64) (ki : Nat) (wl : Int64) (hki : ki < 20) (sz : Nat) : Met l yX1_collect wsX1_collect ({ frames := 2, cells := 0, slots := 0, locals := 41 } : Room) (va_Pc [.ref h0, .int (nI ki), .long wl] (mPre D cI cJ cZ [(h0, .inr (1, [.ref g1, .ref g2, .ref g3])), (g1, .inl (cZ, 20, .inl (bA UP))), (g2, .inl (cZ, 20, .inl (bA CL))), (g3, .inl (cJ, 20, .inr (.inl CO)))] sz)) (Qv9 D (va_A [(h0, .inr (1, [.ref g1, .ref g2, .ref g3])), (g1, .inl (cZ, 20, .inl (bA UP))), (g2, .inl (cZ, 20, .inl (bA CL))), (g3, .inl (cJ, 20, .inr (.inl CO)))] sz) [(h0, .inr (1, [.ref g1, .ref g2, .ref g3])), (g1, .inl (cZ, 20, .inl (bA UP))), (g2, .inl (cZ, 20, .inl (bA CL))), (g3, .inl (cJ, 20, .inr (.inl (coF UP CL CO ki wl))))]) 0 0 (va_A [(h0, .inr (1, [.ref g1, .ref g2, .ref g3])), (g1, .inl (cZ, 20, .inl (bA UP))), (g2, .inl (cZ, 20, .inl (bA CL))), (g3, .inl (cJ, 20, .inr (.inl CO)))] sz) := by
  refine Met.ofW (cc := cX1_collect) (maxL := 4) (ret := none) (by decide) rfl ?_
  intro p e s m args below meth c s₁ B hml hv
  obtain ⟨hargs, hsz, hP, hT, hD0⟩ := hv
  have hx := B.exec
  have hb := B.bytes
  have hr := B.returns
  have hts := atoms_spec (ws := wsX1_collect) B.pre
  have hown : s.vm.findClass RX1 = some m.cls := findClass_of_methodNamed B.named
  have hlocks := B.notSynchronized
  subst hsz
  have hK := hT.1
  have hD := hD0.self (sz := s.heap.size)
  generalize hAe : va_A [(h0, .inr (1, [.ref g1, .ref g2, .ref g3])), (g1, .inl (cZ, 20, .inl (bA UP))), (g2, .inl (cZ, 20, .inl (bA CL))), (g3, .inl (cJ, 20, .inr (.inl CO)))] s.heap.size = A at hD ⊢
  have hA : ∀ q : Nat, s.heap.size ≤ q → A q := fun q h => by rw [← hAe]; exact Or.inr h
  have hS : va_S A s.heap s.heap [] := va_S.rf
  obtain ⟨H, hHe⟩ : ∃ H : Heap, H = s.heap := ⟨_, rfl⟩
  have hS : va_S A s.heap H [] := by rw [hHe]; exact va_S.rf
  rw [← hHe] at hP
  suffices K0 : W p l e (headSpec wsX1_collect ({ frames := 2, cells := 0, slots := 0, locals := 41 } : Room)).room s m args below meth c H [] 0 0 (MQ below (Qv9 D A [(h0, .inr (1, [.ref g1, .ref g2, .ref g3])), (g1, .inl (cZ, 20, .inl (bA UP))), (g2, .inl (cZ, 20, .inl (bA CL))), (g3, .inl (cJ, 20, .inr (.inl (coF UP CL CO ki wl))))]) args s 0 0 A) (entryFrame m args 4) by rw [hHe] at K0; exact K0
  refine W.eq (g2 := entryFrame m ([.ref h0, .int (nI ki), .long wl] : List Value).toArray 4) (by rw [hargs]) ?_
  have hl := lv_entry ([.ref h0, .int (nI ki), .long wl]) (n := 4) (Nat.le_of_ble_eq_true rfl)
  rw [lg_entry_eq]
  generalize (lg_sl ([.ref h0, .int (nI ki), .long wl]) ++ List.replicate (4 - (lg_sl ([.ref h0, .int (nI ki), .long wl])).length) Slot.unset).toArray = ls at hl ⊢
  have hl : lv_has ls 4 [(0, .ref h0), (1, .int (nI ki)), (2, .long wl)] := hl
  generalize ([] : List Loc) = locs at hS ⊢
  have hinX1 : ∀ w ∈ wsX10, w ∈ wsX1_collect := by decide +kernel
  have hf18 := hts (.fieldLink RX1 18 "Brightband$Gauges" "contents" "[J") (by decide +kernel)
  have hc32 := hts (.constantLong RX1 32 (2)) (by decide +kernel)
  refine lv_aload_n hx hb dX1_collect_0 rfl (lv_at hl 0 rfl) ?_
  refine lv_iload_n hx hb dX1_collect_1 rfl (lv_at hl 1 rfl) ?_
  refine cr_i (wc := [(h0, .inr (1, [.ref g1, .ref g2, .ref g3])), (g1, .inl (cZ, 20, .inl (bA UP))), (g2, .inl (cZ, 20, .inl (bA CL))), (g3, .inl (cJ, 20, .inr (.inl CO)))]) (w1 := [(h0, .inr (1, [.ref g1, .ref g2, .ref g3])), (g1, .inl (cZ, 20, .inl (bA UP))), (g2, .inl (cZ, 20, .inl (bA CL))), (g3, .inl (cJ, 20, .inr (.inl CO)))]) (ws2 := [(h0, .inr (1, [.ref g1, .ref g2, .ref g3])), (g1, .inl (cZ, 20, .inl (bA UP))), (g2, .inl (cZ, 20, .inl (bA CL))), (g3, .inl (cJ, 20, .inr (.inl CO)))]) hP hD hS hA [0, 1, 2, 3] rfl rfl rfl (va_runV (As := [.int (nI ki)]) (rest := []) ⟨hx, hb, hml, hown, hts⟩ (c_X1_isUp l D cI cJ cZ h0 g1 g2 g3 UP CL CO ki (by omega) H.size) (cwV 1 hts gX1_collect_X1_isUp rfl rfl rfl (by decide +kernel) ⟨Nat.le_of_ble_eq_true rfl, Nat.le_of_ble_eq_true rfl⟩) (pvV hT hP hD [0, 1, 2, 3] rfl rfl 0 rfl rfl) rfl rfl hl.1 rfl (lv_room (Nat.le_of_ble_eq_true rfl)) dX1_collect_2 ⟨Nat.zero_le _, Nat.zero_le _⟩) (fun H locs hP hD hS => ?_)
  refine cb_eq (tgt := 34) hx hb dX1_collect_5 (by decide) (fun c_5 => ?_) (fun c_5 => ?_)
  · have hwe : ([(h0, .inr (1, [.ref g1, .ref g2, .ref g3])), (g1, .inl (cZ, 20, .inl (bA UP))), (g2, .inl (cZ, 20, .inl (bA CL))), (g3, .inl (cJ, 20, .inr (.inl (coF UP CL CO ki wl))))] : va_W) = [(h0, .inr (1, [.ref g1, .ref g2, .ref g3])), (g1, .inl (cZ, 20, .inl (bA UP))), (g2, .inl (cZ, 20, .inl (bA CL))), (g3, .inl (cJ, 20, .inr (.inl CO)))] := (by first | (rw [show coF UP CL CO ki wl = CO from if_neg (by rw [c_5]; decide)]) | (rw [show coF UP CL CO ki wl = uN CO ki (CO ki + wl / 2) from by unfold coF; rw [if_pos c_5, if_pos c_20]]) | (rw [show coF UP CL CO ki wl = uN CO ki (CO ki + wl) from by unfold coF; rw [if_pos c_5, if_neg (by rw [c_20]; decide)]]))
    have hP : va_P D vwCl [(h0, .inr (1, [.ref g1, .ref g2, .ref g3])), (g1, .inl (cZ, 20, .inl (bA UP))), (g2, .inl (cZ, 20, .inl (bA CL))), (g3, .inl (cJ, 20, .inr (.inl (coF UP CL CO ki wl))))] H := by rw [hwe]; exact hP
    have hD : va_D A [(h0, .inr (1, [.ref g1, .ref g2, .ref g3])), (g1, .inl (cZ, 20, .inl (bA UP))), (g2, .inl (cZ, 20, .inl (bA CL))), (g3, .inl (cJ, 20, .inr (.inl (coF UP CL CO ki wl))))] := by rw [hwe]; exact hD
    exact fin_v hx hb hr hlocks hP hD hS dX1_collect_34
  · refine lv_aload_n hx hb dX1_collect_8 rfl (lv_at hl 0 rfl) ?_
    refine va_get (D := D) (ci := 1) (v := .ref g3) (C := RX1) (T := TX1) (N := 3) hx hb hts hinX1 hown hK hP 0 rfl rfl 2 (by decide) hf18 (fun _ h9 => h9) rfl dX1_collect_9 ?_
    refine lv_iload_n hx hb dX1_collect_12 rfl (lv_at hl 1 rfl) ?_
    refine lv_dup2_11 hx hb dX1_collect_13 rfl rfl ?_
    refine ald_L hx hb hK hP 3 1 rfl rfl ki rfl (by omega) (Nat.le_of_ble_eq_true rfl) dX1_collect_14 ?_
    refine lv_aload_n hx hb dX1_collect_15 rfl (lv_at hl 0 rfl) ?_
    refine lv_iload_n hx hb dX1_collect_16 rfl (lv_at hl 1 rfl) ?_
    refine cr_i (wc := [(h0, .inr (1, [.ref g1, .ref g2, .ref g3])), (g1, .inl (cZ, 20, .inl (bA UP))), (g2, .inl (cZ, 20, .inl (bA CL))), (g3, .inl (cJ, 20, .inr (.inl CO)))]) (w1 := [(h0, .inr (1, [.ref g1, .ref g2, .ref g3])), (g1, .inl (cZ, 20, .inl (bA UP))), (g2, .inl (cZ, 20, .inl (bA CL))), (g3, .inl (cJ, 20, .inr (.inl CO)))]) (ws2 := [(h0, .inr (1, [.ref g1, .ref g2, .ref g3])), (g1, .inl (cZ, 20, .inl (bA UP))), (g2, .inl (cZ, 20, .inl (bA CL))), (g3, .inl (cJ, 20, .inr (.inl CO)))]) hP hD hS hA [0, 1, 2, 3] rfl rfl rfl (va_runV (As := [.int (nI ki)]) (rest := [.long (CO ki), .int (nI ki), .ref g3]) ⟨hx, hb, hml, hown, hts⟩ (c_X1_isClogged l D cI cJ cZ h0 g1 g2 g3 UP CL CO ki (by omega) H.size) (cwV 1 hts gX1_collect_X1_isClogged rfl rfl rfl (by decide +kernel) ⟨Nat.le_of_ble_eq_true rfl, Nat.le_of_ble_eq_true rfl⟩) (pvV hT hP hD [0, 1, 2, 3] rfl rfl 0 rfl rfl) rfl rfl hl.1 rfl (lv_room (Nat.le_of_ble_eq_true rfl)) dX1_collect_17 ⟨Nat.zero_le _, Nat.zero_le _⟩) (fun H locs hP hD hS => ?_)
    refine cb_eq (tgt := 31) hx hb dX1_collect_20 (by decide) (fun c_20 => ?_) (fun c_20 => ?_)
    · refine lv_lload_n hx hb dX1_collect_31 rfl (lv_at hl 2 rfl) ?_
      refine lv_ladd hx hb dX1_collect_32 ?_
      refine ast_L (x := (CO ki) + wl) hx hb hK hP hD hS 3 1 rfl rfl ki rfl (by omega) (Nat.le_of_ble_eq_true rfl) dX1_collect_33 (fun H locs hP hD hS => ?_)
      have hP : va_P D vwCl [(h0, .inr (1, [.ref g1, .ref g2, .ref g3])), (g1, .inl (cZ, 20, .inl (bA UP))), (g2, .inl (cZ, 20, .inl (bA CL))), (g3, .inl (cJ, 20, .inr (.inl (uN CO ki ((CO ki) + wl)))))] H := hP
      have hD : va_D A [(h0, .inr (1, [.ref g1, .ref g2, .ref g3])), (g1, .inl (cZ, 20, .inl (bA UP))), (g2, .inl (cZ, 20, .inl (bA CL))), (g3, .inl (cJ, 20, .inr (.inl (uN CO ki ((CO ki) + wl)))))] := hD
      have hwe : ([(h0, .inr (1, [.ref g1, .ref g2, .ref g3])), (g1, .inl (cZ, 20, .inl (bA UP))), (g2, .inl (cZ, 20, .inl (bA CL))), (g3, .inl (cJ, 20, .inr (.inl (coF UP CL CO ki wl))))] : va_W) = [(h0, .inr (1, [.ref g1, .ref g2, .ref g3])), (g1, .inl (cZ, 20, .inl (bA UP))), (g2, .inl (cZ, 20, .inl (bA CL))), (g3, .inl (cJ, 20, .inr (.inl (uN CO ki ((CO ki) + wl)))))] := (by first | (rw [show coF UP CL CO ki wl = CO from if_neg (by rw [c_5]; decide)]) | (rw [show coF UP CL CO ki wl = uN CO ki (CO ki + wl / 2) from by unfold coF; rw [if_pos c_5, if_pos c_20]]) | (rw [show coF UP CL CO ki wl = uN CO ki (CO ki + wl) from by unfold coF; rw [if_pos c_5, if_neg (by rw [c_20]; decide)]]))
      have hP : va_P D vwCl [(h0, .inr (1, [.ref g1, .ref g2, .ref g3])), (g1, .inl (cZ, 20, .inl (bA UP))), (g2, .inl (cZ, 20, .inl (bA CL))), (g3, .inl (cJ, 20, .inr (.inl (coF UP CL CO ki wl))))] H := by rw [hwe]; exact hP
      have hD : va_D A [(h0, .inr (1, [.ref g1, .ref g2, .ref g3])), (g1, .inl (cZ, 20, .inl (bA UP))), (g2, .inl (cZ, 20, .inl (bA CL))), (g3, .inl (cJ, 20, .inr (.inl (coF UP CL CO ki wl))))] := by rw [hwe]; exact hD
      exact fin_v hx hb hr hlocks hP hD hS dX1_collect_34
    · refine lv_lload_n hx hb dX1_collect_23 rfl (lv_at hl 2 rfl) ?_
      refine lv_ldc2 (v := 2) hx hb hown hc32 dX1_collect_24 ?_
      refine lv_ldiv hx hb dX1_collect_27 (by decide) ?_
      refine lv_goto (tgt := 32) hx hb dX1_collect_28 (by decide) ?_
      refine lv_ladd hx hb dX1_collect_32 ?_
      refine ast_L (x := (CO ki) + (wl / 2)) hx hb hK hP hD hS 3 1 rfl rfl ki rfl (by omega) (Nat.le_of_ble_eq_true rfl) dX1_collect_33 (fun H locs hP hD hS => ?_)
      have hP : va_P D vwCl [(h0, .inr (1, [.ref g1, .ref g2, .ref g3])), (g1, .inl (cZ, 20, .inl (bA UP))), (g2, .inl (cZ, 20, .inl (bA CL))), (g3, .inl (cJ, 20, .inr (.inl (uN CO ki ((CO ki) + (wl / 2))))))] H := hP
      have hD : va_D A [(h0, .inr (1, [.ref g1, .ref g2, .ref g3])), (g1, .inl (cZ, 20, .inl (bA UP))), (g2, .inl (cZ, 20, .inl (bA CL))), (g3, .inl (cJ, 20, .inr (.inl (uN CO ki ((CO ki) + (wl / 2))))))] := hD
      have hwe : ([(h0, .inr (1, [.ref g1, .ref g2, .ref g3])), (g1, .inl (cZ, 20, .inl (bA UP))), (g2, .inl (cZ, 20, .inl (bA CL))), (g3, .inl (cJ, 20, .inr (.inl (coF UP CL CO ki wl))))] : va_W) = [(h0, .inr (1, [.ref g1, .ref g2, .ref g3])), (g1, .inl (cZ, 20, .inl (bA UP))), (g2, .inl (cZ, 20, .inl (bA CL))), (g3, .inl (cJ, 20, .inr (.inl (uN CO ki ((CO ki) + (wl / 2))))))] := (by first | (rw [show coF UP CL CO ki wl = CO from if_neg (by rw [c_5]; decide)]) | (rw [show coF UP CL CO ki wl = uN CO ki (CO ki + wl / 2) from by unfold coF; rw [if_pos c_5, if_pos c_20]]) | (rw [show coF UP CL CO ki wl = uN CO ki (CO ki + wl) from by unfold coF; rw [if_pos c_5, if_neg (by rw [c_20]; decide)]]))
      have hP : va_P D vwCl [(h0, .inr (1, [.ref g1, .ref g2, .ref g3])), (g1, .inl (cZ, 20, .inl (bA UP))), (g2, .inl (cZ, 20, .inl (bA CL))), (g3, .inl (cJ, 20, .inr (.inl (coF UP CL CO ki wl))))] H := by rw [hwe]; exact hP
      have hD : va_D A [(h0, .inr (1, [.ref g1, .ref g2, .ref g3])), (g1, .inl (cZ, 20, .inl (bA UP))), (g2, .inl (cZ, 20, .inl (bA CL))), (g3, .inl (cJ, 20, .inr (.inl (coF UP CL CO ki wl))))] := by rw [hwe]; exact hD
      exact fin_v hx hb hr hlocks hP hD hS dX1_collect_34
set_option maxHeartbeats 4000000 in
set_option maxRecDepth 100000 in
theorem c_X2_isMinute (l : Launch) (D : va_G) (cI cJ cZ : ClassId) (nu : Nat) (hnu : nu ≤ 600) (sz : Nat) : Met l yX2_isMinute wsX2_isMinute ({ frames := 0, cells := 0, slots := 0, locals := 0 } : Room) (va_Pc [.int (nI nu)] (mPre D cI cJ cZ [] sz)) (Qi9 D (va_A [] sz) [] (bI true)) 0 0 (va_A [] sz) := by
  refine Met.ofW (cc := cX2_isMinute) (maxL := 1) (ret := (some .boolean)) (by decide) rfl ?_
  intro p e s m args below meth c s₁ B hml hv
  obtain ⟨hargs, hsz, hP, hT, hD0⟩ := hv
  have hx := B.exec
  have hb := B.bytes
  have hr := B.returns
  have hts := atoms_spec (ws := wsX2_isMinute) B.pre
  have hown : s.vm.findClass RX2 = some m.cls := findClass_of_methodNamed B.named
  have hlocks := B.notSynchronized
  subst hsz
  have hK := hT.1
  have hD := hD0.self (sz := s.heap.size)
  generalize hAe : va_A [] s.heap.size = A at hD ⊢
  have hA : ∀ q : Nat, s.heap.size ≤ q → A q := fun q h => by rw [← hAe]; exact Or.inr h
  have hS : va_S A s.heap s.heap [] := va_S.rf
  obtain ⟨H, hHe⟩ : ∃ H : Heap, H = s.heap := ⟨_, rfl⟩
  have hS : va_S A s.heap H [] := by rw [hHe]; exact va_S.rf
  rw [← hHe] at hP
  suffices K0 : W p l e (headSpec wsX2_isMinute ({ frames := 0, cells := 0, slots := 0, locals := 0 } : Room)).room s m args below meth c H [] 0 0 (MQ below (Qi9 D A [] (bI true)) args s 0 0 A) (entryFrame m args 1) by rw [hHe] at K0; exact K0
  refine W.eq (g2 := entryFrame m ([.int (nI nu)] : List Value).toArray 1) (by rw [hargs]) ?_
  have hl := lv_entry ([.int (nI nu)]) (n := 1) (Nat.le_of_ble_eq_true rfl)
  rw [lg_entry_eq]
  generalize (lg_sl ([.int (nI nu)]) ++ List.replicate (1 - (lg_sl ([.int (nI nu)])).length) Slot.unset).toArray = ls at hl ⊢
  have hl : lv_has ls 1 [(0, .int (nI nu))] := hl
  generalize ([] : List Loc) = locs at hS ⊢
  refine lv_iload_n hx hb dX2_isMinute_0 rfl (lv_at hl 0 rfl) ?_
  refine c0_lt (tgt := 15) hx hb dX2_isMinute_1 (by decide) (nT (by omega)) (fun c_1 => by omega) (fun c_1 => ?_)
  refine lv_iload_n hx hb dX2_isMinute_4 rfl (lv_at hl 0 rfl) ?_
  refine lv_sipush (v := nI 600) hx hb dX2_isMinute_5 (by decide) ?_
  refine ci_gt (tgt := 15) hx hb dX2_isMinute_8 (by decide) (nT (by omega)) (nT (by omega)) (fun c_8 => by omega) (fun c_8 => ?_)
  refine lv_iconst (v := nI 1) hx hb dX2_isMinute_11 (by decide) ?_
  refine lv_goto (tgt := 16) hx hb dX2_isMinute_12 (by decide) ?_
  exact fin_z hx hb hr hlocks hP hD hS (rfl) dX2_isMinute_16
set_option maxHeartbeats 4000000 in
set_option maxRecDepth 100000 in
theorem c_X2_keep (l : Launch) (D : va_G) (cI cJ cZ : ClassId) (h0 : Nat) (p1 : Nat) (p2 : Nat) (ML : Nat → Nat) (SP : Nat → Int) (nu : Nat) (me : Nat) (st : Int) (hnu : nu ≤ 600) (sz : Nat) : Met l yX2_keep wsX2_keep ({ frames := 1, cells := 0, slots := 0, locals := 20 } : Room) (va_Pc [.ref h0, .int (nI nu), .int (nI me), .int (zI st)] (mPre D cI cJ cZ [(h0, .inr (2, [.ref p1, .ref p2])), (p1, .inl (cI, 601, .inl (nA ML))), (p2, .inl (cI, 601, .inl (zA SP)))] sz)) (Qv9 D (va_A [(h0, .inr (2, [.ref p1, .ref p2])), (p1, .inl (cI, 601, .inl (nA ML))), (p2, .inl (cI, 601, .inl (zA SP)))] sz) [(h0, .inr (2, [.ref p1, .ref p2])), (p1, .inl (cI, 601, .inl (nA (uN ML nu me)))), (p2, .inl (cI, 601, .inl (zA (uN SP nu st))))]) 0 0 (va_A [(h0, .inr (2, [.ref p1, .ref p2])), (p1, .inl (cI, 601, .inl (nA ML))), (p2, .inl (cI, 601, .inl (zA SP)))] sz) := by
  refine Met.ofW (cc := cX2_keep) (maxL := 4) (ret := none) (by decide) rfl ?_
  intro p e s m args below meth c s₁ B hml hv
  obtain ⟨hargs, hsz, hP, hT, hD0⟩ := hv
  have hx := B.exec
  have hb := B.bytes
  have hr := B.returns
  have hts := atoms_spec (ws := wsX2_keep) B.pre
  have hown : s.vm.findClass RX2 = some m.cls := findClass_of_methodNamed B.named
  have hlocks := B.notSynchronized
  subst hsz
  have hK := hT.1
  have hD := hD0.self (sz := s.heap.size)
  generalize hAe : va_A [(h0, .inr (2, [.ref p1, .ref p2])), (p1, .inl (cI, 601, .inl (nA ML))), (p2, .inl (cI, 601, .inl (zA SP)))] s.heap.size = A at hD ⊢
  have hA : ∀ q : Nat, s.heap.size ≤ q → A q := fun q h => by rw [← hAe]; exact Or.inr h
  have hS : va_S A s.heap s.heap [] := va_S.rf
  obtain ⟨H, hHe⟩ : ∃ H : Heap, H = s.heap := ⟨_, rfl⟩
  have hS : va_S A s.heap H [] := by rw [hHe]; exact va_S.rf
  rw [← hHe] at hP
  suffices K0 : W p l e (headSpec wsX2_keep ({ frames := 1, cells := 0, slots := 0, locals := 20 } : Room)).room s m args below meth c H [] 0 0 (MQ below (Qv9 D A [(h0, .inr (2, [.ref p1, .ref p2])), (p1, .inl (cI, 601, .inl (nA (uN ML nu me)))), (p2, .inl (cI, 601, .inl (zA (uN SP nu st))))]) args s 0 0 A) (entryFrame m args 4) by rw [hHe] at K0; exact K0
  refine W.eq (g2 := entryFrame m ([.ref h0, .int (nI nu), .int (nI me), .int (zI st)] : List Value).toArray 4) (by rw [hargs]) ?_
  have hl := lv_entry ([.ref h0, .int (nI nu), .int (nI me), .int (zI st)]) (n := 4) (Nat.le_of_ble_eq_true rfl)
  rw [lg_entry_eq]
  generalize (lg_sl ([.ref h0, .int (nI nu), .int (nI me), .int (zI st)]) ++ List.replicate (4 - (lg_sl ([.ref h0, .int (nI nu), .int (nI me), .int (zI st)])).length) Slot.unset).toArray = ls at hl ⊢
  have hl : lv_has ls 4 [(0, .ref h0), (1, .int (nI nu)), (2, .int (nI me)), (3, .int (zI st))] := hl
  generalize ([] : List Loc) = locs at hS ⊢
  have hinX2 : ∀ w ∈ wsX20, w ∈ wsX2_keep := by decide +kernel
  have hf9 := hts (.fieldLink RX2 9 "Brightband$Past" "meltings" "[I") (by decide +kernel)
  have hf15 := hts (.fieldLink RX2 15 "Brightband$Past" "steps" "[I") (by decide +kernel)
  refine lv_iload_n hx hb dX2_keep_0 rfl (lv_at hl 1 rfl) ?_
  refine cr_i (wc := []) (w1 := []) (ws2 := [(h0, .inr (2, [.ref p1, .ref p2])), (p1, .inl (cI, 601, .inl (nA ML))), (p2, .inl (cI, 601, .inl (zA SP)))]) hP hD hS hA [] rfl rfl rfl (va_runS (As := [.int (nI nu)]) (rest := []) ⟨hx, hb, hml, hown, hts⟩ (c_X2_isMinute l D cI cJ cZ nu (by omega) H.size) (va_cwS 1 hts gX2_keep_X2_isMinute rfl rfl rfl (by decide +kernel) ⟨Nat.le_of_ble_eq_true rfl, Nat.le_of_ble_eq_true rfl⟩) (pvS hT hP hD [] rfl rfl) rfl rfl hl.1 rfl (lv_room (Nat.le_of_ble_eq_true rfl)) dX2_keep_1 ⟨Nat.zero_le _, Nat.zero_le _⟩) (fun H locs hP hD hS => ?_)
  refine cb_eq (tgt := 21) hx hb dX2_keep_4 (by decide) (fun c_4 => absurd c_4 (by decide)) (fun c_4 => ?_)
  refine lv_aload_n hx hb dX2_keep_7 rfl (lv_at hl 0 rfl) ?_
  refine va_get (D := D) (ci := 2) (v := .ref p1) (C := RX2) (T := TX2) (N := 2) hx hb hts hinX2 hown hK hP 0 rfl rfl 0 (by decide) hf9 (fun _ h9 => h9) rfl dX2_keep_8 ?_
  refine lv_iload_n hx hb dX2_keep_11 rfl (lv_at hl 1 rfl) ?_
  refine lv_iload_n hx hb dX2_keep_12 rfl (lv_at hl 2 rfl) ?_
  refine ast_N (x := me) hx hb hK hP hD hS 1 0 rfl rfl nu rfl (by omega) (Nat.le_of_ble_eq_true rfl) dX2_keep_13 (fun H locs hP hD hS => ?_)
  have hP : va_P D vwCl [(h0, .inr (2, [.ref p1, .ref p2])), (p1, .inl (cI, 601, .inl (nA (uN ML nu me)))), (p2, .inl (cI, 601, .inl (zA SP)))] H := hP
  have hD : va_D A [(h0, .inr (2, [.ref p1, .ref p2])), (p1, .inl (cI, 601, .inl (nA (uN ML nu me)))), (p2, .inl (cI, 601, .inl (zA SP)))] := hD
  refine lv_aload_n hx hb dX2_keep_14 rfl (lv_at hl 0 rfl) ?_
  refine va_get (D := D) (ci := 2) (v := .ref p2) (C := RX2) (T := TX2) (N := 2) hx hb hts hinX2 hown hK hP 0 rfl rfl 1 (by decide) hf15 (fun _ h9 => h9) rfl dX2_keep_15 ?_
  refine lv_iload_n hx hb dX2_keep_18 rfl (lv_at hl 1 rfl) ?_
  refine lv_iload_n hx hb dX2_keep_19 rfl (lv_at hl 3 rfl) ?_
  refine ast_Z (x := st) hx hb hK hP hD hS 2 0 rfl rfl nu rfl (by omega) (Nat.le_of_ble_eq_true rfl) dX2_keep_20 (fun H locs hP hD hS => ?_)
  have hP : va_P D vwCl [(h0, .inr (2, [.ref p1, .ref p2])), (p1, .inl (cI, 601, .inl (nA (uN ML nu me)))), (p2, .inl (cI, 601, .inl (zA (uN SP nu st))))] H := hP
  have hD : va_D A [(h0, .inr (2, [.ref p1, .ref p2])), (p1, .inl (cI, 601, .inl (nA (uN ML nu me)))), (p2, .inl (cI, 601, .inl (zA (uN SP nu st))))] := hD
  exact fin_v hx hb hr hlocks hP hD hS dX2_keep_21
set_option maxHeartbeats 4000000 in
set_option maxRecDepth 100000 in
theorem c_X2_meltingIn (l : Launch) (D : va_G) (cI cJ cZ : ClassId) (h0 : Nat) (p1 : Nat) (p2 : Nat) (ML : Nat → Nat) (SP : Nat → Int) (nu : Nat) (hnu : nu ≤ 600) (sz : Nat) : Met l yX2_meltingIn wsX2_meltingIn ({ frames := 1, cells := 0, slots := 0, locals := 20 } : Room) (va_Pc [.ref h0, .int (nI nu)] (mPre D cI cJ cZ [(h0, .inr (2, [.ref p1, .ref p2])), (p1, .inl (cI, 601, .inl (nA ML))), (p2, .inl (cI, 601, .inl (zA SP)))] sz)) (Qi9 D (va_A [(h0, .inr (2, [.ref p1, .ref p2])), (p1, .inl (cI, 601, .inl (nA ML))), (p2, .inl (cI, 601, .inl (zA SP)))] sz) [(h0, .inr (2, [.ref p1, .ref p2])), (p1, .inl (cI, 601, .inl (nA ML))), (p2, .inl (cI, 601, .inl (zA SP)))] (nI (ML nu))) 0 0 (va_A [(h0, .inr (2, [.ref p1, .ref p2])), (p1, .inl (cI, 601, .inl (nA ML))), (p2, .inl (cI, 601, .inl (zA SP)))] sz) := by
  refine Met.ofW (cc := cX2_meltingIn) (maxL := 2) (ret := (some .int)) (by decide) rfl ?_
  intro p e s m args below meth c s₁ B hml hv
  obtain ⟨hargs, hsz, hP, hT, hD0⟩ := hv
  have hx := B.exec
  have hb := B.bytes
  have hr := B.returns
  have hts := atoms_spec (ws := wsX2_meltingIn) B.pre
  have hown : s.vm.findClass RX2 = some m.cls := findClass_of_methodNamed B.named
  have hlocks := B.notSynchronized
  subst hsz
  have hK := hT.1
  have hD := hD0.self (sz := s.heap.size)
  generalize hAe : va_A [(h0, .inr (2, [.ref p1, .ref p2])), (p1, .inl (cI, 601, .inl (nA ML))), (p2, .inl (cI, 601, .inl (zA SP)))] s.heap.size = A at hD ⊢
  have hA : ∀ q : Nat, s.heap.size ≤ q → A q := fun q h => by rw [← hAe]; exact Or.inr h
  have hS : va_S A s.heap s.heap [] := va_S.rf
  obtain ⟨H, hHe⟩ : ∃ H : Heap, H = s.heap := ⟨_, rfl⟩
  have hS : va_S A s.heap H [] := by rw [hHe]; exact va_S.rf
  rw [← hHe] at hP
  suffices K0 : W p l e (headSpec wsX2_meltingIn ({ frames := 1, cells := 0, slots := 0, locals := 20 } : Room)).room s m args below meth c H [] 0 0 (MQ below (Qi9 D A [(h0, .inr (2, [.ref p1, .ref p2])), (p1, .inl (cI, 601, .inl (nA ML))), (p2, .inl (cI, 601, .inl (zA SP)))] (nI (ML nu))) args s 0 0 A) (entryFrame m args 2) by rw [hHe] at K0; exact K0
  refine W.eq (g2 := entryFrame m ([.ref h0, .int (nI nu)] : List Value).toArray 2) (by rw [hargs]) ?_
  have hl := lv_entry ([.ref h0, .int (nI nu)]) (n := 2) (Nat.le_of_ble_eq_true rfl)
  rw [lg_entry_eq]
  generalize (lg_sl ([.ref h0, .int (nI nu)]) ++ List.replicate (2 - (lg_sl ([.ref h0, .int (nI nu)])).length) Slot.unset).toArray = ls at hl ⊢
  have hl : lv_has ls 2 [(0, .ref h0), (1, .int (nI nu))] := hl
  generalize ([] : List Loc) = locs at hS ⊢
  have hinX2 : ∀ w ∈ wsX20, w ∈ wsX2_meltingIn := by decide +kernel
  have hf9 := hts (.fieldLink RX2 9 "Brightband$Past" "meltings" "[I") (by decide +kernel)
  refine lv_iload_n hx hb dX2_meltingIn_0 rfl (lv_at hl 1 rfl) ?_
  refine cr_i (wc := []) (w1 := []) (ws2 := [(h0, .inr (2, [.ref p1, .ref p2])), (p1, .inl (cI, 601, .inl (nA ML))), (p2, .inl (cI, 601, .inl (zA SP)))]) hP hD hS hA [] rfl rfl rfl (va_runS (As := [.int (nI nu)]) (rest := []) ⟨hx, hb, hml, hown, hts⟩ (c_X2_isMinute l D cI cJ cZ nu (by omega) H.size) (va_cwS 1 hts gX2_meltingIn_X2_isMinute rfl rfl rfl (by decide +kernel) ⟨Nat.le_of_ble_eq_true rfl, Nat.le_of_ble_eq_true rfl⟩) (pvS hT hP hD [] rfl rfl) rfl rfl hl.1 rfl (lv_room (Nat.le_of_ble_eq_true rfl)) dX2_meltingIn_1 ⟨Nat.zero_le _, Nat.zero_le _⟩) (fun H locs hP hD hS => ?_)
  refine cb_eq (tgt := 16) hx hb dX2_meltingIn_4 (by decide) (fun c_4 => absurd c_4 (by decide)) (fun c_4 => ?_)
  refine lv_aload_n hx hb dX2_meltingIn_7 rfl (lv_at hl 0 rfl) ?_
  refine va_get (D := D) (ci := 2) (v := .ref p1) (C := RX2) (T := TX2) (N := 2) hx hb hts hinX2 hown hK hP 0 rfl rfl 0 (by decide) hf9 (fun _ h9 => h9) rfl dX2_meltingIn_8 ?_
  refine lv_iload_n hx hb dX2_meltingIn_11 rfl (lv_at hl 1 rfl) ?_
  refine ald_N hx hb hK hP 1 0 rfl rfl nu rfl (by omega) (Nat.le_of_ble_eq_true rfl) dX2_meltingIn_12 ?_
  refine lv_goto (tgt := 17) hx hb dX2_meltingIn_13 (by decide) ?_
  exact fin_i hx hb hr hlocks hP hD hS (rfl) dX2_meltingIn_17
set_option maxHeartbeats 4000000 in
set_option maxRecDepth 100000 in
theorem c_X2_stepIn (l : Launch) (D : va_G) (cI cJ cZ : ClassId) (h0 : Nat) (p1 : Nat) (p2 : Nat) (ML : Nat → Nat) (SP : Nat → Int) (nu : Nat) (hnu : nu ≤ 600) (sz : Nat) : Met l yX2_stepIn wsX2_stepIn ({ frames := 1, cells := 0, slots := 0, locals := 20 } : Room) (va_Pc [.ref h0, .int (nI nu)] (mPre D cI cJ cZ [(h0, .inr (2, [.ref p1, .ref p2])), (p1, .inl (cI, 601, .inl (nA ML))), (p2, .inl (cI, 601, .inl (zA SP)))] sz)) (Qi9 D (va_A [(h0, .inr (2, [.ref p1, .ref p2])), (p1, .inl (cI, 601, .inl (nA ML))), (p2, .inl (cI, 601, .inl (zA SP)))] sz) [(h0, .inr (2, [.ref p1, .ref p2])), (p1, .inl (cI, 601, .inl (nA ML))), (p2, .inl (cI, 601, .inl (zA SP)))] (zI (SP nu))) 0 0 (va_A [(h0, .inr (2, [.ref p1, .ref p2])), (p1, .inl (cI, 601, .inl (nA ML))), (p2, .inl (cI, 601, .inl (zA SP)))] sz) := by
  refine Met.ofW (cc := cX2_stepIn) (maxL := 2) (ret := (some .int)) (by decide) rfl ?_
  intro p e s m args below meth c s₁ B hml hv
  obtain ⟨hargs, hsz, hP, hT, hD0⟩ := hv
  have hx := B.exec
  have hb := B.bytes
  have hr := B.returns
  have hts := atoms_spec (ws := wsX2_stepIn) B.pre
  have hown : s.vm.findClass RX2 = some m.cls := findClass_of_methodNamed B.named
  have hlocks := B.notSynchronized
  subst hsz
  have hK := hT.1
  have hD := hD0.self (sz := s.heap.size)
  generalize hAe : va_A [(h0, .inr (2, [.ref p1, .ref p2])), (p1, .inl (cI, 601, .inl (nA ML))), (p2, .inl (cI, 601, .inl (zA SP)))] s.heap.size = A at hD ⊢
  have hA : ∀ q : Nat, s.heap.size ≤ q → A q := fun q h => by rw [← hAe]; exact Or.inr h
  have hS : va_S A s.heap s.heap [] := va_S.rf
  obtain ⟨H, hHe⟩ : ∃ H : Heap, H = s.heap := ⟨_, rfl⟩
  have hS : va_S A s.heap H [] := by rw [hHe]; exact va_S.rf
  rw [← hHe] at hP
  suffices K0 : W p l e (headSpec wsX2_stepIn ({ frames := 1, cells := 0, slots := 0, locals := 20 } : Room)).room s m args below meth c H [] 0 0 (MQ below (Qi9 D A [(h0, .inr (2, [.ref p1, .ref p2])), (p1, .inl (cI, 601, .inl (nA ML))), (p2, .inl (cI, 601, .inl (zA SP)))] (zI (SP nu))) args s 0 0 A) (entryFrame m args 2) by rw [hHe] at K0; exact K0
  refine W.eq (g2 := entryFrame m ([.ref h0, .int (nI nu)] : List Value).toArray 2) (by rw [hargs]) ?_
  have hl := lv_entry ([.ref h0, .int (nI nu)]) (n := 2) (Nat.le_of_ble_eq_true rfl)
  rw [lg_entry_eq]
  generalize (lg_sl ([.ref h0, .int (nI nu)]) ++ List.replicate (2 - (lg_sl ([.ref h0, .int (nI nu)])).length) Slot.unset).toArray = ls at hl ⊢
  have hl : lv_has ls 2 [(0, .ref h0), (1, .int (nI nu))] := hl
  generalize ([] : List Loc) = locs at hS ⊢
  have hinX2 : ∀ w ∈ wsX20, w ∈ wsX2_stepIn := by decide +kernel
  have hf15 := hts (.fieldLink RX2 15 "Brightband$Past" "steps" "[I") (by decide +kernel)
  refine lv_iload_n hx hb dX2_stepIn_0 rfl (lv_at hl 1 rfl) ?_
  refine cr_i (wc := []) (w1 := []) (ws2 := [(h0, .inr (2, [.ref p1, .ref p2])), (p1, .inl (cI, 601, .inl (nA ML))), (p2, .inl (cI, 601, .inl (zA SP)))]) hP hD hS hA [] rfl rfl rfl (va_runS (As := [.int (nI nu)]) (rest := []) ⟨hx, hb, hml, hown, hts⟩ (c_X2_isMinute l D cI cJ cZ nu (by omega) H.size) (va_cwS 1 hts gX2_stepIn_X2_isMinute rfl rfl rfl (by decide +kernel) ⟨Nat.le_of_ble_eq_true rfl, Nat.le_of_ble_eq_true rfl⟩) (pvS hT hP hD [] rfl rfl) rfl rfl hl.1 rfl (lv_room (Nat.le_of_ble_eq_true rfl)) dX2_stepIn_1 ⟨Nat.zero_le _, Nat.zero_le _⟩) (fun H locs hP hD hS => ?_)
  refine cb_eq (tgt := 16) hx hb dX2_stepIn_4 (by decide) (fun c_4 => absurd c_4 (by decide)) (fun c_4 => ?_)
  refine lv_aload_n hx hb dX2_stepIn_7 rfl (lv_at hl 0 rfl) ?_
  refine va_get (D := D) (ci := 2) (v := .ref p2) (C := RX2) (T := TX2) (N := 2) hx hb hts hinX2 hown hK hP 0 rfl rfl 1 (by decide) hf15 (fun _ h9 => h9) rfl dX2_stepIn_8 ?_
  refine lv_iload_n hx hb dX2_stepIn_11 rfl (lv_at hl 1 rfl) ?_
  refine ald_Z hx hb hK hP 2 0 rfl rfl nu rfl (by omega) (Nat.le_of_ble_eq_true rfl) dX2_stepIn_12 ?_
  refine lv_goto (tgt := 17) hx hb dX2_stepIn_13 (by decide) ?_
  exact fin_i hx hb hr hlocks hP hD hS (rfl) dX2_stepIn_17
set_option maxHeartbeats 4000000 in
set_option maxRecDepth 100000 in
theorem c_X3_keep (l : Launch) (D : va_G) (cI cJ cZ : ClassId) (h0 : Nat) (u1 : Nat) (u2 : Nat) (u3 : Nat) (u4 : Nat) (u5 : Nat) (PK : Nat → Nat) (PL : Nat → Nat) (PS : Nat → Nat) (PN : Nat → Nat) (PM : Nat → Nat) (pn : Nat) (ki : Nat) (la : Nat) (si : Nat) (mn : Nat) (mi : Nat) (hpn : pn < 100) (sz : Nat) : Met l yX3_keep wsX3_keep ({ frames := 0, cells := 0, slots := 0, locals := 0 } : Room) (va_Pc [.ref h0, .int (nI ki), .int (nI la), .int (nI si), .int (nI mn), .int (nI mi)] (mPre D cI cJ cZ [(h0, .inr (3, [.ref u1, .ref u2, .ref u3, .ref u4, .ref u5, .int (nI pn)])), (u1, .inl (cI, 100, .inl (nA PK))), (u2, .inl (cI, 100, .inl (nA PL))), (u3, .inl (cI, 100, .inl (nA PS))), (u4, .inl (cI, 100, .inl (nA PN))), (u5, .inl (cI, 100, .inl (nA PM)))] sz)) (Qv9 D (va_A [(h0, .inr (3, [.ref u1, .ref u2, .ref u3, .ref u4, .ref u5, .int (nI pn)])), (u1, .inl (cI, 100, .inl (nA PK))), (u2, .inl (cI, 100, .inl (nA PL))), (u3, .inl (cI, 100, .inl (nA PS))), (u4, .inl (cI, 100, .inl (nA PN))), (u5, .inl (cI, 100, .inl (nA PM)))] sz) [(h0, .inr (3, [.ref u1, .ref u2, .ref u3, .ref u4, .ref u5, .int (nI (pn + 1))])), (u1, .inl (cI, 100, .inl (nA (uN PK pn ki)))), (u2, .inl (cI, 100, .inl (nA (uN PL pn la)))), (u3, .inl (cI, 100, .inl (nA (uN PS pn si)))), (u4, .inl (cI, 100, .inl (nA (uN PN pn mn)))), (u5, .inl (cI, 100, .inl (nA (uN PM pn mi))))]) 0 0 (va_A [(h0, .inr (3, [.ref u1, .ref u2, .ref u3, .ref u4, .ref u5, .int (nI pn)])), (u1, .inl (cI, 100, .inl (nA PK))), (u2, .inl (cI, 100, .inl (nA PL))), (u3, .inl (cI, 100, .inl (nA PS))), (u4, .inl (cI, 100, .inl (nA PN))), (u5, .inl (cI, 100, .inl (nA PM)))] sz) := by
  refine Met.ofW (cc := cX3_keep) (maxL := 6) (ret := none) (by decide) rfl ?_
  intro p e s m args below meth c s₁ B hml hv
  obtain ⟨hargs, hsz, hP, hT, hD0⟩ := hv
  have hx := B.exec
  have hb := B.bytes
  have hr := B.returns
  have hts := atoms_spec (ws := wsX3_keep) B.pre
  have hown : s.vm.findClass RX3 = some m.cls := findClass_of_methodNamed B.named
  have hlocks := B.notSynchronized
  subst hsz
  have hK := hT.1
  have hD := hD0.self (sz := s.heap.size)
  generalize hAe : va_A [(h0, .inr (3, [.ref u1, .ref u2, .ref u3, .ref u4, .ref u5, .int (nI pn)])), (u1, .inl (cI, 100, .inl (nA PK))), (u2, .inl (cI, 100, .inl (nA PL))), (u3, .inl (cI, 100, .inl (nA PS))), (u4, .inl (cI, 100, .inl (nA PN))), (u5, .inl (cI, 100, .inl (nA PM)))] s.heap.size = A at hD ⊢
  have hA : ∀ q : Nat, s.heap.size ≤ q → A q := fun q h => by rw [← hAe]; exact Or.inr h
  have hS : va_S A s.heap s.heap [] := va_S.rf
  obtain ⟨H, hHe⟩ : ∃ H : Heap, H = s.heap := ⟨_, rfl⟩
  have hS : va_S A s.heap H [] := by rw [hHe]; exact va_S.rf
  rw [← hHe] at hP
  suffices K0 : W p l e (headSpec wsX3_keep ({ frames := 0, cells := 0, slots := 0, locals := 0 } : Room)).room s m args below meth c H [] 0 0 (MQ below (Qv9 D A [(h0, .inr (3, [.ref u1, .ref u2, .ref u3, .ref u4, .ref u5, .int (nI (pn + 1))])), (u1, .inl (cI, 100, .inl (nA (uN PK pn ki)))), (u2, .inl (cI, 100, .inl (nA (uN PL pn la)))), (u3, .inl (cI, 100, .inl (nA (uN PS pn si)))), (u4, .inl (cI, 100, .inl (nA (uN PN pn mn)))), (u5, .inl (cI, 100, .inl (nA (uN PM pn mi))))]) args s 0 0 A) (entryFrame m args 6) by rw [hHe] at K0; exact K0
  refine W.eq (g2 := entryFrame m ([.ref h0, .int (nI ki), .int (nI la), .int (nI si), .int (nI mn), .int (nI mi)] : List Value).toArray 6) (by rw [hargs]) ?_
  have hl := lv_entry ([.ref h0, .int (nI ki), .int (nI la), .int (nI si), .int (nI mn), .int (nI mi)]) (n := 6) (Nat.le_of_ble_eq_true rfl)
  rw [lg_entry_eq]
  generalize (lg_sl ([.ref h0, .int (nI ki), .int (nI la), .int (nI si), .int (nI mn), .int (nI mi)]) ++ List.replicate (6 - (lg_sl ([.ref h0, .int (nI ki), .int (nI la), .int (nI si), .int (nI mn), .int (nI mi)])).length) Slot.unset).toArray = ls at hl ⊢
  have hl : lv_has ls 6 [(0, .ref h0), (1, .int (nI ki)), (2, .int (nI la)), (3, .int (nI si)), (4, .int (nI mn)), (5, .int (nI mi))] := hl
  generalize ([] : List Loc) = locs at hS ⊢
  have hinX3 : ∀ w ∈ wsX30, w ∈ wsX3_keep := by decide +kernel
  have hf27 := hts (.fieldLink RX3 27 "Brightband$Puts" "made" "I") (by decide +kernel)
  have hf9 := hts (.fieldLink RX3 9 "Brightband$Puts" "kilometres" "[I") (by decide +kernel)
  have hf15 := hts (.fieldLink RX3 15 "Brightband$Puts" "layers" "[I") (by decide +kernel)
  have hf18 := hts (.fieldLink RX3 18 "Brightband$Puts" "sizes" "[I") (by decide +kernel)
  have hf21 := hts (.fieldLink RX3 21 "Brightband$Puts" "numbers" "[I") (by decide +kernel)
  have hf24 := hts (.fieldLink RX3 24 "Brightband$Puts" "minutes" "[I") (by decide +kernel)
  refine lv_aload_n hx hb dX3_keep_0 rfl (lv_at hl 0 rfl) ?_
  refine va_get (D := D) (ci := 3) (v := .int (nI pn)) (C := RX3) (T := TX3) (N := 6) hx hb hts hinX3 hown hK hP 0 rfl rfl 5 (by decide) hf27 (fun _ h9 => h9) rfl dX3_keep_1 ?_
  refine lv_bipush (v := nI 100) hx hb dX3_keep_4 (by decide) ?_
  refine ci_lt (tgt := 10) hx hb dX3_keep_6 (by decide) (nT (by omega)) (nT (by omega)) (fun c_6 => ?_) (fun c_6 => by omega)
  refine lv_aload_n hx hb dX3_keep_10 rfl (lv_at hl 0 rfl) ?_
  refine va_get (D := D) (ci := 3) (v := .ref u1) (C := RX3) (T := TX3) (N := 6) hx hb hts hinX3 hown hK hP 0 rfl rfl 0 (by decide) hf9 (fun _ h9 => h9) rfl dX3_keep_11 ?_
  refine lv_aload_n hx hb dX3_keep_14 rfl (lv_at hl 0 rfl) ?_
  refine va_get (D := D) (ci := 3) (v := .int (nI pn)) (C := RX3) (T := TX3) (N := 6) hx hb hts hinX3 hown hK hP 0 rfl rfl 5 (by decide) hf27 (fun _ h9 => h9) rfl dX3_keep_15 ?_
  refine lv_iload_n hx hb dX3_keep_18 rfl (lv_at hl 1 rfl) ?_
  refine ast_N (x := ki) hx hb hK hP hD hS 1 0 rfl rfl pn rfl (by omega) (Nat.le_of_ble_eq_true rfl) dX3_keep_19 (fun H locs hP hD hS => ?_)
  have hP : va_P D vwCl [(h0, .inr (3, [.ref u1, .ref u2, .ref u3, .ref u4, .ref u5, .int (nI pn)])), (u1, .inl (cI, 100, .inl (nA (uN PK pn ki)))), (u2, .inl (cI, 100, .inl (nA PL))), (u3, .inl (cI, 100, .inl (nA PS))), (u4, .inl (cI, 100, .inl (nA PN))), (u5, .inl (cI, 100, .inl (nA PM)))] H := hP
  have hD : va_D A [(h0, .inr (3, [.ref u1, .ref u2, .ref u3, .ref u4, .ref u5, .int (nI pn)])), (u1, .inl (cI, 100, .inl (nA (uN PK pn ki)))), (u2, .inl (cI, 100, .inl (nA PL))), (u3, .inl (cI, 100, .inl (nA PS))), (u4, .inl (cI, 100, .inl (nA PN))), (u5, .inl (cI, 100, .inl (nA PM)))] := hD
  refine lv_aload_n hx hb dX3_keep_20 rfl (lv_at hl 0 rfl) ?_
  refine va_get (D := D) (ci := 3) (v := .ref u2) (C := RX3) (T := TX3) (N := 6) hx hb hts hinX3 hown hK hP 0 rfl rfl 1 (by decide) hf15 (fun _ h9 => h9) rfl dX3_keep_21 ?_
  refine lv_aload_n hx hb dX3_keep_24 rfl (lv_at hl 0 rfl) ?_
  refine va_get (D := D) (ci := 3) (v := .int (nI pn)) (C := RX3) (T := TX3) (N := 6) hx hb hts hinX3 hown hK hP 0 rfl rfl 5 (by decide) hf27 (fun _ h9 => h9) rfl dX3_keep_25 ?_
  refine lv_iload_n hx hb dX3_keep_28 rfl (lv_at hl 2 rfl) ?_
  refine ast_N (x := la) hx hb hK hP hD hS 2 0 rfl rfl pn rfl (by omega) (Nat.le_of_ble_eq_true rfl) dX3_keep_29 (fun H locs hP hD hS => ?_)
  have hP : va_P D vwCl [(h0, .inr (3, [.ref u1, .ref u2, .ref u3, .ref u4, .ref u5, .int (nI pn)])), (u1, .inl (cI, 100, .inl (nA (uN PK pn ki)))), (u2, .inl (cI, 100, .inl (nA (uN PL pn la)))), (u3, .inl (cI, 100, .inl (nA PS))), (u4, .inl (cI, 100, .inl (nA PN))), (u5, .inl (cI, 100, .inl (nA PM)))] H := hP
  have hD : va_D A [(h0, .inr (3, [.ref u1, .ref u2, .ref u3, .ref u4, .ref u5, .int (nI pn)])), (u1, .inl (cI, 100, .inl (nA (uN PK pn ki)))), (u2, .inl (cI, 100, .inl (nA (uN PL pn la)))), (u3, .inl (cI, 100, .inl (nA PS))), (u4, .inl (cI, 100, .inl (nA PN))), (u5, .inl (cI, 100, .inl (nA PM)))] := hD
  refine lv_aload_n hx hb dX3_keep_30 rfl (lv_at hl 0 rfl) ?_
  refine va_get (D := D) (ci := 3) (v := .ref u3) (C := RX3) (T := TX3) (N := 6) hx hb hts hinX3 hown hK hP 0 rfl rfl 2 (by decide) hf18 (fun _ h9 => h9) rfl dX3_keep_31 ?_
  refine lv_aload_n hx hb dX3_keep_34 rfl (lv_at hl 0 rfl) ?_
  refine va_get (D := D) (ci := 3) (v := .int (nI pn)) (C := RX3) (T := TX3) (N := 6) hx hb hts hinX3 hown hK hP 0 rfl rfl 5 (by decide) hf27 (fun _ h9 => h9) rfl dX3_keep_35 ?_
  refine lv_iload_n hx hb dX3_keep_38 rfl (lv_at hl 3 rfl) ?_
  refine ast_N (x := si) hx hb hK hP hD hS 3 0 rfl rfl pn rfl (by omega) (Nat.le_of_ble_eq_true rfl) dX3_keep_39 (fun H locs hP hD hS => ?_)
  have hP : va_P D vwCl [(h0, .inr (3, [.ref u1, .ref u2, .ref u3, .ref u4, .ref u5, .int (nI pn)])), (u1, .inl (cI, 100, .inl (nA (uN PK pn ki)))), (u2, .inl (cI, 100, .inl (nA (uN PL pn la)))), (u3, .inl (cI, 100, .inl (nA (uN PS pn si)))), (u4, .inl (cI, 100, .inl (nA PN))), (u5, .inl (cI, 100, .inl (nA PM)))] H := hP
  have hD : va_D A [(h0, .inr (3, [.ref u1, .ref u2, .ref u3, .ref u4, .ref u5, .int (nI pn)])), (u1, .inl (cI, 100, .inl (nA (uN PK pn ki)))), (u2, .inl (cI, 100, .inl (nA (uN PL pn la)))), (u3, .inl (cI, 100, .inl (nA (uN PS pn si)))), (u4, .inl (cI, 100, .inl (nA PN))), (u5, .inl (cI, 100, .inl (nA PM)))] := hD
  refine lv_aload_n hx hb dX3_keep_40 rfl (lv_at hl 0 rfl) ?_
  refine va_get (D := D) (ci := 3) (v := .ref u4) (C := RX3) (T := TX3) (N := 6) hx hb hts hinX3 hown hK hP 0 rfl rfl 3 (by decide) hf21 (fun _ h9 => h9) rfl dX3_keep_41 ?_
  refine lv_aload_n hx hb dX3_keep_44 rfl (lv_at hl 0 rfl) ?_
  refine va_get (D := D) (ci := 3) (v := .int (nI pn)) (C := RX3) (T := TX3) (N := 6) hx hb hts hinX3 hown hK hP 0 rfl rfl 5 (by decide) hf27 (fun _ h9 => h9) rfl dX3_keep_45 ?_
  refine lv_iload hx hb dX3_keep_48 (lv_at hl 4 rfl) ?_
  refine ast_N (x := mn) hx hb hK hP hD hS 4 0 rfl rfl pn rfl (by omega) (Nat.le_of_ble_eq_true rfl) dX3_keep_50 (fun H locs hP hD hS => ?_)
  have hP : va_P D vwCl [(h0, .inr (3, [.ref u1, .ref u2, .ref u3, .ref u4, .ref u5, .int (nI pn)])), (u1, .inl (cI, 100, .inl (nA (uN PK pn ki)))), (u2, .inl (cI, 100, .inl (nA (uN PL pn la)))), (u3, .inl (cI, 100, .inl (nA (uN PS pn si)))), (u4, .inl (cI, 100, .inl (nA (uN PN pn mn)))), (u5, .inl (cI, 100, .inl (nA PM)))] H := hP
  have hD : va_D A [(h0, .inr (3, [.ref u1, .ref u2, .ref u3, .ref u4, .ref u5, .int (nI pn)])), (u1, .inl (cI, 100, .inl (nA (uN PK pn ki)))), (u2, .inl (cI, 100, .inl (nA (uN PL pn la)))), (u3, .inl (cI, 100, .inl (nA (uN PS pn si)))), (u4, .inl (cI, 100, .inl (nA (uN PN pn mn)))), (u5, .inl (cI, 100, .inl (nA PM)))] := hD
  refine lv_aload_n hx hb dX3_keep_51 rfl (lv_at hl 0 rfl) ?_
  refine va_get (D := D) (ci := 3) (v := .ref u5) (C := RX3) (T := TX3) (N := 6) hx hb hts hinX3 hown hK hP 0 rfl rfl 4 (by decide) hf24 (fun _ h9 => h9) rfl dX3_keep_52 ?_
  refine lv_aload_n hx hb dX3_keep_55 rfl (lv_at hl 0 rfl) ?_
  refine va_get (D := D) (ci := 3) (v := .int (nI pn)) (C := RX3) (T := TX3) (N := 6) hx hb hts hinX3 hown hK hP 0 rfl rfl 5 (by decide) hf27 (fun _ h9 => h9) rfl dX3_keep_56 ?_
  refine lv_iload hx hb dX3_keep_59 (lv_at hl 5 rfl) ?_
  refine ast_N (x := mi) hx hb hK hP hD hS 5 0 rfl rfl pn rfl (by omega) (Nat.le_of_ble_eq_true rfl) dX3_keep_61 (fun H locs hP hD hS => ?_)
  have hP : va_P D vwCl [(h0, .inr (3, [.ref u1, .ref u2, .ref u3, .ref u4, .ref u5, .int (nI pn)])), (u1, .inl (cI, 100, .inl (nA (uN PK pn ki)))), (u2, .inl (cI, 100, .inl (nA (uN PL pn la)))), (u3, .inl (cI, 100, .inl (nA (uN PS pn si)))), (u4, .inl (cI, 100, .inl (nA (uN PN pn mn)))), (u5, .inl (cI, 100, .inl (nA (uN PM pn mi))))] H := hP
  have hD : va_D A [(h0, .inr (3, [.ref u1, .ref u2, .ref u3, .ref u4, .ref u5, .int (nI pn)])), (u1, .inl (cI, 100, .inl (nA (uN PK pn ki)))), (u2, .inl (cI, 100, .inl (nA (uN PL pn la)))), (u3, .inl (cI, 100, .inl (nA (uN PS pn si)))), (u4, .inl (cI, 100, .inl (nA (uN PN pn mn)))), (u5, .inl (cI, 100, .inl (nA (uN PM pn mi))))] := hD
  refine lv_aload_n hx hb dX3_keep_62 rfl (lv_at hl 0 rfl) ?_
  refine lv_dup hx hb dX3_keep_63 rfl ?_
  refine va_get (D := D) (ci := 3) (v := .int (nI pn)) (C := RX3) (T := TX3) (N := 6) hx hb hts hinX3 hown hK hP 0 rfl rfl 5 (by decide) hf27 (fun _ h9 => h9) rfl dX3_keep_64 ?_
  refine lv_iconst (v := nI 1) hx hb dX3_keep_67 (by decide) ?_
  refine lv_iadd hx hb dX3_keep_68 ?_
  refine tp_i (nI_add _ _) ?_
  refine va_put (D := D) (ci := 3) (v := .int (nI (pn + 1))) (ty := .int) (C := RX3) (T := TX3) (N := 6) hx hb hts hinX3 tyX3 tyX3_ok nmX3 hown hK hP hD hS 0 rfl rfl 5 (by decide) hf27 (fun _ h9 => h9) rfl (by decide +kernel) rfl rfl (Nat.le_of_ble_eq_true rfl) dX3_keep_69 (fun H locs hP hD hS => ?_)
  have hP : va_P D vwCl [(h0, .inr (3, [.ref u1, .ref u2, .ref u3, .ref u4, .ref u5, .int (nI (pn + 1))])), (u1, .inl (cI, 100, .inl (nA (uN PK pn ki)))), (u2, .inl (cI, 100, .inl (nA (uN PL pn la)))), (u3, .inl (cI, 100, .inl (nA (uN PS pn si)))), (u4, .inl (cI, 100, .inl (nA (uN PN pn mn)))), (u5, .inl (cI, 100, .inl (nA (uN PM pn mi))))] H := hP
  have hD : va_D A [(h0, .inr (3, [.ref u1, .ref u2, .ref u3, .ref u4, .ref u5, .int (nI (pn + 1))])), (u1, .inl (cI, 100, .inl (nA (uN PK pn ki)))), (u2, .inl (cI, 100, .inl (nA (uN PL pn la)))), (u3, .inl (cI, 100, .inl (nA (uN PS pn si)))), (u4, .inl (cI, 100, .inl (nA (uN PN pn mn)))), (u5, .inl (cI, 100, .inl (nA (uN PM pn mi))))] := hD
  exact fin_v hx hb hr hlocks hP hD hS dX3_keep_72
set_option maxHeartbeats 4000000 in
set_option maxRecDepth 100000 in
theorem c_X3_has (l : Launch) (D : va_G) (cI cJ cZ : ClassId) (h0 : Nat) (u1 : Nat) (u2 : Nat) (u3 : Nat) (u4 : Nat) (u5 : Nat) (PK : Nat → Nat) (PL : Nat → Nat) (PS : Nat → Nat) (PN : Nat → Nat) (PM : Nat → Nat) (pn : Nat) (iu : Nat) (hiu : iu < pn) (hpn : pn ≤ 100) (sz : Nat) : Met l yX3_has wsX3_has ({ frames := 0, cells := 0, slots := 0, locals := 0 } : Room) (va_Pc [.ref h0, .int (nI iu)] (mPre D cI cJ cZ [(h0, .inr (3, [.ref u1, .ref u2, .ref u3, .ref u4, .ref u5, .int (nI pn)])), (u1, .inl (cI, 100, .inl (nA PK))), (u2, .inl (cI, 100, .inl (nA PL))), (u3, .inl (cI, 100, .inl (nA PS))), (u4, .inl (cI, 100, .inl (nA PN))), (u5, .inl (cI, 100, .inl (nA PM)))] sz)) (Qi9 D (va_A [(h0, .inr (3, [.ref u1, .ref u2, .ref u3, .ref u4, .ref u5, .int (nI pn)])), (u1, .inl (cI, 100, .inl (nA PK))), (u2, .inl (cI, 100, .inl (nA PL))), (u3, .inl (cI, 100, .inl (nA PS))), (u4, .inl (cI, 100, .inl (nA PN))), (u5, .inl (cI, 100, .inl (nA PM)))] sz) [(h0, .inr (3, [.ref u1, .ref u2, .ref u3, .ref u4, .ref u5, .int (nI pn)])), (u1, .inl (cI, 100, .inl (nA PK))), (u2, .inl (cI, 100, .inl (nA PL))), (u3, .inl (cI, 100, .inl (nA PS))), (u4, .inl (cI, 100, .inl (nA PN))), (u5, .inl (cI, 100, .inl (nA PM)))] (bI true)) 0 0 (va_A [(h0, .inr (3, [.ref u1, .ref u2, .ref u3, .ref u4, .ref u5, .int (nI pn)])), (u1, .inl (cI, 100, .inl (nA PK))), (u2, .inl (cI, 100, .inl (nA PL))), (u3, .inl (cI, 100, .inl (nA PS))), (u4, .inl (cI, 100, .inl (nA PN))), (u5, .inl (cI, 100, .inl (nA PM)))] sz) := by
  refine Met.ofW (cc := cX3_has) (maxL := 2) (ret := (some .boolean)) (by decide) rfl ?_
  intro p e s m args below meth c s₁ B hml hv
  obtain ⟨hargs, hsz, hP, hT, hD0⟩ := hv
  have hx := B.exec
  have hb := B.bytes
  have hr := B.returns
  have hts := atoms_spec (ws := wsX3_has) B.pre
  have hown : s.vm.findClass RX3 = some m.cls := findClass_of_methodNamed B.named
  have hlocks := B.notSynchronized
  subst hsz
  have hK := hT.1
  have hD := hD0.self (sz := s.heap.size)
  generalize hAe : va_A [(h0, .inr (3, [.ref u1, .ref u2, .ref u3, .ref u4, .ref u5, .int (nI pn)])), (u1, .inl (cI, 100, .inl (nA PK))), (u2, .inl (cI, 100, .inl (nA PL))), (u3, .inl (cI, 100, .inl (nA PS))), (u4, .inl (cI, 100, .inl (nA PN))), (u5, .inl (cI, 100, .inl (nA PM)))] s.heap.size = A at hD ⊢
  have hA : ∀ q : Nat, s.heap.size ≤ q → A q := fun q h => by rw [← hAe]; exact Or.inr h
  have hS : va_S A s.heap s.heap [] := va_S.rf
  obtain ⟨H, hHe⟩ : ∃ H : Heap, H = s.heap := ⟨_, rfl⟩
  have hS : va_S A s.heap H [] := by rw [hHe]; exact va_S.rf
  rw [← hHe] at hP
  suffices K0 : W p l e (headSpec wsX3_has ({ frames := 0, cells := 0, slots := 0, locals := 0 } : Room)).room s m args below meth c H [] 0 0 (MQ below (Qi9 D A [(h0, .inr (3, [.ref u1, .ref u2, .ref u3, .ref u4, .ref u5, .int (nI pn)])), (u1, .inl (cI, 100, .inl (nA PK))), (u2, .inl (cI, 100, .inl (nA PL))), (u3, .inl (cI, 100, .inl (nA PS))), (u4, .inl (cI, 100, .inl (nA PN))), (u5, .inl (cI, 100, .inl (nA PM)))] (bI true)) args s 0 0 A) (entryFrame m args 2) by rw [hHe] at K0; exact K0
  refine W.eq (g2 := entryFrame m ([.ref h0, .int (nI iu)] : List Value).toArray 2) (by rw [hargs]) ?_
  have hl := lv_entry ([.ref h0, .int (nI iu)]) (n := 2) (Nat.le_of_ble_eq_true rfl)
  rw [lg_entry_eq]
  generalize (lg_sl ([.ref h0, .int (nI iu)]) ++ List.replicate (2 - (lg_sl ([.ref h0, .int (nI iu)])).length) Slot.unset).toArray = ls at hl ⊢
  have hl : lv_has ls 2 [(0, .ref h0), (1, .int (nI iu))] := hl
  generalize ([] : List Loc) = locs at hS ⊢
  have hinX3 : ∀ w ∈ wsX30, w ∈ wsX3_has := by decide +kernel
  have hf27 := hts (.fieldLink RX3 27 "Brightband$Puts" "made" "I") (by decide +kernel)
  refine lv_iload_n hx hb dX3_has_0 rfl (lv_at hl 1 rfl) ?_
  refine c0_lt (tgt := 22) hx hb dX3_has_1 (by decide) (nT (by omega)) (fun c_1 => by omega) (fun c_1 => ?_)
  refine lv_iload_n hx hb dX3_has_4 rfl (lv_at hl 1 rfl) ?_
  refine lv_aload_n hx hb dX3_has_5 rfl (lv_at hl 0 rfl) ?_
  refine va_get (D := D) (ci := 3) (v := .int (nI pn)) (C := RX3) (T := TX3) (N := 6) hx hb hts hinX3 hown hK hP 0 rfl rfl 5 (by decide) hf27 (fun _ h9 => h9) rfl dX3_has_6 ?_
  refine ci_ge (tgt := 22) hx hb dX3_has_9 (by decide) (nT (by omega)) (nT (by omega)) (fun c_9 => by omega) (fun c_9 => ?_)
  refine lv_iload_n hx hb dX3_has_12 rfl (lv_at hl 1 rfl) ?_
  refine lv_bipush (v := nI 100) hx hb dX3_has_13 (by decide) ?_
  refine ci_ge (tgt := 22) hx hb dX3_has_15 (by decide) (nT (by omega)) (nT (by omega)) (fun c_15 => by omega) (fun c_15 => ?_)
  refine lv_iconst (v := nI 1) hx hb dX3_has_18 (by decide) ?_
  refine lv_goto (tgt := 23) hx hb dX3_has_19 (by decide) ?_
  exact fin_z hx hb hr hlocks hP hD hS (rfl) dX3_has_23
set_option maxHeartbeats 4000000 in
set_option maxRecDepth 100000 in
theorem c_X3_kilometreAt (l : Launch) (D : va_G) (cI cJ cZ : ClassId) (h0 : Nat) (u1 : Nat) (u2 : Nat) (u3 : Nat) (u4 : Nat) (u5 : Nat) (PK : Nat → Nat) (PL : Nat → Nat) (PS : Nat → Nat) (PN : Nat → Nat) (PM : Nat → Nat) (pn : Nat) (iu : Nat) (hiu : iu < pn) (hpn : pn ≤ 100) (sz : Nat) : Met l yX3_kilometreAt wsX3_kilometreAt ({ frames := 1, cells := 0, slots := 0, locals := 21 } : Room) (va_Pc [.ref h0, .int (nI iu)] (mPre D cI cJ cZ [(h0, .inr (3, [.ref u1, .ref u2, .ref u3, .ref u4, .ref u5, .int (nI pn)])), (u1, .inl (cI, 100, .inl (nA PK))), (u2, .inl (cI, 100, .inl (nA PL))), (u3, .inl (cI, 100, .inl (nA PS))), (u4, .inl (cI, 100, .inl (nA PN))), (u5, .inl (cI, 100, .inl (nA PM)))] sz)) (Qi9 D (va_A [(h0, .inr (3, [.ref u1, .ref u2, .ref u3, .ref u4, .ref u5, .int (nI pn)])), (u1, .inl (cI, 100, .inl (nA PK))), (u2, .inl (cI, 100, .inl (nA PL))), (u3, .inl (cI, 100, .inl (nA PS))), (u4, .inl (cI, 100, .inl (nA PN))), (u5, .inl (cI, 100, .inl (nA PM)))] sz) [(h0, .inr (3, [.ref u1, .ref u2, .ref u3, .ref u4, .ref u5, .int (nI pn)])), (u1, .inl (cI, 100, .inl (nA PK))), (u2, .inl (cI, 100, .inl (nA PL))), (u3, .inl (cI, 100, .inl (nA PS))), (u4, .inl (cI, 100, .inl (nA PN))), (u5, .inl (cI, 100, .inl (nA PM)))] (nI (PK iu))) 0 0 (va_A [(h0, .inr (3, [.ref u1, .ref u2, .ref u3, .ref u4, .ref u5, .int (nI pn)])), (u1, .inl (cI, 100, .inl (nA PK))), (u2, .inl (cI, 100, .inl (nA PL))), (u3, .inl (cI, 100, .inl (nA PS))), (u4, .inl (cI, 100, .inl (nA PN))), (u5, .inl (cI, 100, .inl (nA PM)))] sz) := by
  refine Met.ofW (cc := cX3_kilometreAt) (maxL := 2) (ret := (some .int)) (by decide) rfl ?_
  intro p e s m args below meth c s₁ B hml hv
  obtain ⟨hargs, hsz, hP, hT, hD0⟩ := hv
  have hx := B.exec
  have hb := B.bytes
  have hr := B.returns
  have hts := atoms_spec (ws := wsX3_kilometreAt) B.pre
  have hown : s.vm.findClass RX3 = some m.cls := findClass_of_methodNamed B.named
  have hlocks := B.notSynchronized
  subst hsz
  have hK := hT.1
  have hD := hD0.self (sz := s.heap.size)
  generalize hAe : va_A [(h0, .inr (3, [.ref u1, .ref u2, .ref u3, .ref u4, .ref u5, .int (nI pn)])), (u1, .inl (cI, 100, .inl (nA PK))), (u2, .inl (cI, 100, .inl (nA PL))), (u3, .inl (cI, 100, .inl (nA PS))), (u4, .inl (cI, 100, .inl (nA PN))), (u5, .inl (cI, 100, .inl (nA PM)))] s.heap.size = A at hD ⊢
  have hA : ∀ q : Nat, s.heap.size ≤ q → A q := fun q h => by rw [← hAe]; exact Or.inr h
  have hS : va_S A s.heap s.heap [] := va_S.rf
  obtain ⟨H, hHe⟩ : ∃ H : Heap, H = s.heap := ⟨_, rfl⟩
  have hS : va_S A s.heap H [] := by rw [hHe]; exact va_S.rf
  rw [← hHe] at hP
  suffices K0 : W p l e (headSpec wsX3_kilometreAt ({ frames := 1, cells := 0, slots := 0, locals := 21 } : Room)).room s m args below meth c H [] 0 0 (MQ below (Qi9 D A [(h0, .inr (3, [.ref u1, .ref u2, .ref u3, .ref u4, .ref u5, .int (nI pn)])), (u1, .inl (cI, 100, .inl (nA PK))), (u2, .inl (cI, 100, .inl (nA PL))), (u3, .inl (cI, 100, .inl (nA PS))), (u4, .inl (cI, 100, .inl (nA PN))), (u5, .inl (cI, 100, .inl (nA PM)))] (nI (PK iu))) args s 0 0 A) (entryFrame m args 2) by rw [hHe] at K0; exact K0
  refine W.eq (g2 := entryFrame m ([.ref h0, .int (nI iu)] : List Value).toArray 2) (by rw [hargs]) ?_
  have hl := lv_entry ([.ref h0, .int (nI iu)]) (n := 2) (Nat.le_of_ble_eq_true rfl)
  rw [lg_entry_eq]
  generalize (lg_sl ([.ref h0, .int (nI iu)]) ++ List.replicate (2 - (lg_sl ([.ref h0, .int (nI iu)])).length) Slot.unset).toArray = ls at hl ⊢
  have hl : lv_has ls 2 [(0, .ref h0), (1, .int (nI iu))] := hl
  generalize ([] : List Loc) = locs at hS ⊢
  have hinX3 : ∀ w ∈ wsX30, w ∈ wsX3_kilometreAt := by decide +kernel
  have hf9 := hts (.fieldLink RX3 9 "Brightband$Puts" "kilometres" "[I") (by decide +kernel)
  refine lv_aload_n hx hb dX3_kilometreAt_0 rfl (lv_at hl 0 rfl) ?_
  refine lv_iload_n hx hb dX3_kilometreAt_1 rfl (lv_at hl 1 rfl) ?_
  refine cr_i (wc := [(h0, .inr (3, [.ref u1, .ref u2, .ref u3, .ref u4, .ref u5, .int (nI pn)])), (u1, .inl (cI, 100, .inl (nA PK))), (u2, .inl (cI, 100, .inl (nA PL))), (u3, .inl (cI, 100, .inl (nA PS))), (u4, .inl (cI, 100, .inl (nA PN))), (u5, .inl (cI, 100, .inl (nA PM)))]) (w1 := [(h0, .inr (3, [.ref u1, .ref u2, .ref u3, .ref u4, .ref u5, .int (nI pn)])), (u1, .inl (cI, 100, .inl (nA PK))), (u2, .inl (cI, 100, .inl (nA PL))), (u3, .inl (cI, 100, .inl (nA PS))), (u4, .inl (cI, 100, .inl (nA PN))), (u5, .inl (cI, 100, .inl (nA PM)))]) (ws2 := [(h0, .inr (3, [.ref u1, .ref u2, .ref u3, .ref u4, .ref u5, .int (nI pn)])), (u1, .inl (cI, 100, .inl (nA PK))), (u2, .inl (cI, 100, .inl (nA PL))), (u3, .inl (cI, 100, .inl (nA PS))), (u4, .inl (cI, 100, .inl (nA PN))), (u5, .inl (cI, 100, .inl (nA PM)))]) hP hD hS hA [0, 1, 2, 3, 4, 5] rfl rfl rfl (va_runV (As := [.int (nI iu)]) (rest := []) ⟨hx, hb, hml, hown, hts⟩ (c_X3_has l D cI cJ cZ h0 u1 u2 u3 u4 u5 PK PL PS PN PM pn iu (by omega) (by omega) H.size) (cwV 1 hts gX3_kilometreAt_X3_has rfl rfl rfl (by decide +kernel) ⟨Nat.le_of_ble_eq_true rfl, Nat.le_of_ble_eq_true rfl⟩) (pvV hT hP hD [0, 1, 2, 3, 4, 5] rfl rfl 0 rfl rfl) rfl rfl hl.1 rfl (lv_room (Nat.le_of_ble_eq_true rfl)) dX3_kilometreAt_2 ⟨Nat.zero_le _, Nat.zero_le _⟩) (fun H locs hP hD hS => ?_)
  refine cb_eq (tgt := 17) hx hb dX3_kilometreAt_5 (by decide) (fun c_5 => absurd c_5 (by decide)) (fun c_5 => ?_)
  refine lv_aload_n hx hb dX3_kilometreAt_8 rfl (lv_at hl 0 rfl) ?_
  refine va_get (D := D) (ci := 3) (v := .ref u1) (C := RX3) (T := TX3) (N := 6) hx hb hts hinX3 hown hK hP 0 rfl rfl 0 (by decide) hf9 (fun _ h9 => h9) rfl dX3_kilometreAt_9 ?_
  refine lv_iload_n hx hb dX3_kilometreAt_12 rfl (lv_at hl 1 rfl) ?_
  refine ald_N hx hb hK hP 1 0 rfl rfl iu rfl (by omega) (Nat.le_of_ble_eq_true rfl) dX3_kilometreAt_13 ?_
  refine lv_goto (tgt := 18) hx hb dX3_kilometreAt_14 (by decide) ?_
  exact fin_i hx hb hr hlocks hP hD hS (rfl) dX3_kilometreAt_18
set_option maxHeartbeats 4000000 in
set_option maxRecDepth 100000 in
theorem c_X3_layerAt (l : Launch) (D : va_G) (cI cJ cZ : ClassId) (h0 : Nat) (u1 : Nat) (u2 : Nat) (u3 : Nat) (u4 : Nat) (u5 : Nat) (PK : Nat → Nat) (PL : Nat → Nat) (PS : Nat → Nat) (PN : Nat → Nat) (PM : Nat → Nat) (pn : Nat) (iu : Nat) (hiu : iu < pn) (hpn : pn ≤ 100) (sz : Nat) : Met l yX3_layerAt wsX3_layerAt ({ frames := 1, cells := 0, slots := 0, locals := 21 } : Room) (va_Pc [.ref h0, .int (nI iu)] (mPre D cI cJ cZ [(h0, .inr (3, [.ref u1, .ref u2, .ref u3, .ref u4, .ref u5, .int (nI pn)])), (u1, .inl (cI, 100, .inl (nA PK))), (u2, .inl (cI, 100, .inl (nA PL))), (u3, .inl (cI, 100, .inl (nA PS))), (u4, .inl (cI, 100, .inl (nA PN))), (u5, .inl (cI, 100, .inl (nA PM)))] sz)) (Qi9 D (va_A [(h0, .inr (3, [.ref u1, .ref u2, .ref u3, .ref u4, .ref u5, .int (nI pn)])), (u1, .inl (cI, 100, .inl (nA PK))), (u2, .inl (cI, 100, .inl (nA PL))), (u3, .inl (cI, 100, .inl (nA PS))), (u4, .inl (cI, 100, .inl (nA PN))), (u5, .inl (cI, 100, .inl (nA PM)))] sz) [(h0, .inr (3, [.ref u1, .ref u2, .ref u3, .ref u4, .ref u5, .int (nI pn)])), (u1, .inl (cI, 100, .inl (nA PK))), (u2, .inl (cI, 100, .inl (nA PL))), (u3, .inl (cI, 100, .inl (nA PS))), (u4, .inl (cI, 100, .inl (nA PN))), (u5, .inl (cI, 100, .inl (nA PM)))] (nI (PL iu))) 0 0 (va_A [(h0, .inr (3, [.ref u1, .ref u2, .ref u3, .ref u4, .ref u5, .int (nI pn)])), (u1, .inl (cI, 100, .inl (nA PK))), (u2, .inl (cI, 100, .inl (nA PL))), (u3, .inl (cI, 100, .inl (nA PS))), (u4, .inl (cI, 100, .inl (nA PN))), (u5, .inl (cI, 100, .inl (nA PM)))] sz) := by
  refine Met.ofW (cc := cX3_layerAt) (maxL := 2) (ret := (some .int)) (by decide) rfl ?_
  intro p e s m args below meth c s₁ B hml hv
  obtain ⟨hargs, hsz, hP, hT, hD0⟩ := hv
  have hx := B.exec
  have hb := B.bytes
  have hr := B.returns
  have hts := atoms_spec (ws := wsX3_layerAt) B.pre
  have hown : s.vm.findClass RX3 = some m.cls := findClass_of_methodNamed B.named
  have hlocks := B.notSynchronized
  subst hsz
  have hK := hT.1
  have hD := hD0.self (sz := s.heap.size)
  generalize hAe : va_A [(h0, .inr (3, [.ref u1, .ref u2, .ref u3, .ref u4, .ref u5, .int (nI pn)])), (u1, .inl (cI, 100, .inl (nA PK))), (u2, .inl (cI, 100, .inl (nA PL))), (u3, .inl (cI, 100, .inl (nA PS))), (u4, .inl (cI, 100, .inl (nA PN))), (u5, .inl (cI, 100, .inl (nA PM)))] s.heap.size = A at hD ⊢
  have hA : ∀ q : Nat, s.heap.size ≤ q → A q := fun q h => by rw [← hAe]; exact Or.inr h
  have hS : va_S A s.heap s.heap [] := va_S.rf
  obtain ⟨H, hHe⟩ : ∃ H : Heap, H = s.heap := ⟨_, rfl⟩
  have hS : va_S A s.heap H [] := by rw [hHe]; exact va_S.rf
  rw [← hHe] at hP
  suffices K0 : W p l e (headSpec wsX3_layerAt ({ frames := 1, cells := 0, slots := 0, locals := 21 } : Room)).room s m args below meth c H [] 0 0 (MQ below (Qi9 D A [(h0, .inr (3, [.ref u1, .ref u2, .ref u3, .ref u4, .ref u5, .int (nI pn)])), (u1, .inl (cI, 100, .inl (nA PK))), (u2, .inl (cI, 100, .inl (nA PL))), (u3, .inl (cI, 100, .inl (nA PS))), (u4, .inl (cI, 100, .inl (nA PN))), (u5, .inl (cI, 100, .inl (nA PM)))] (nI (PL iu))) args s 0 0 A) (entryFrame m args 2) by rw [hHe] at K0; exact K0
  refine W.eq (g2 := entryFrame m ([.ref h0, .int (nI iu)] : List Value).toArray 2) (by rw [hargs]) ?_
  have hl := lv_entry ([.ref h0, .int (nI iu)]) (n := 2) (Nat.le_of_ble_eq_true rfl)
  rw [lg_entry_eq]
  generalize (lg_sl ([.ref h0, .int (nI iu)]) ++ List.replicate (2 - (lg_sl ([.ref h0, .int (nI iu)])).length) Slot.unset).toArray = ls at hl ⊢
  have hl : lv_has ls 2 [(0, .ref h0), (1, .int (nI iu))] := hl
  generalize ([] : List Loc) = locs at hS ⊢
  have hinX3 : ∀ w ∈ wsX30, w ∈ wsX3_layerAt := by decide +kernel
  have hf15 := hts (.fieldLink RX3 15 "Brightband$Puts" "layers" "[I") (by decide +kernel)
  refine lv_aload_n hx hb dX3_layerAt_0 rfl (lv_at hl 0 rfl) ?_
  refine lv_iload_n hx hb dX3_layerAt_1 rfl (lv_at hl 1 rfl) ?_
  refine cr_i (wc := [(h0, .inr (3, [.ref u1, .ref u2, .ref u3, .ref u4, .ref u5, .int (nI pn)])), (u1, .inl (cI, 100, .inl (nA PK))), (u2, .inl (cI, 100, .inl (nA PL))), (u3, .inl (cI, 100, .inl (nA PS))), (u4, .inl (cI, 100, .inl (nA PN))), (u5, .inl (cI, 100, .inl (nA PM)))]) (w1 := [(h0, .inr (3, [.ref u1, .ref u2, .ref u3, .ref u4, .ref u5, .int (nI pn)])), (u1, .inl (cI, 100, .inl (nA PK))), (u2, .inl (cI, 100, .inl (nA PL))), (u3, .inl (cI, 100, .inl (nA PS))), (u4, .inl (cI, 100, .inl (nA PN))), (u5, .inl (cI, 100, .inl (nA PM)))]) (ws2 := [(h0, .inr (3, [.ref u1, .ref u2, .ref u3, .ref u4, .ref u5, .int (nI pn)])), (u1, .inl (cI, 100, .inl (nA PK))), (u2, .inl (cI, 100, .inl (nA PL))), (u3, .inl (cI, 100, .inl (nA PS))), (u4, .inl (cI, 100, .inl (nA PN))), (u5, .inl (cI, 100, .inl (nA PM)))]) hP hD hS hA [0, 1, 2, 3, 4, 5] rfl rfl rfl (va_runV (As := [.int (nI iu)]) (rest := []) ⟨hx, hb, hml, hown, hts⟩ (c_X3_has l D cI cJ cZ h0 u1 u2 u3 u4 u5 PK PL PS PN PM pn iu (by omega) (by omega) H.size) (cwV 1 hts gX3_layerAt_X3_has rfl rfl rfl (by decide +kernel) ⟨Nat.le_of_ble_eq_true rfl, Nat.le_of_ble_eq_true rfl⟩) (pvV hT hP hD [0, 1, 2, 3, 4, 5] rfl rfl 0 rfl rfl) rfl rfl hl.1 rfl (lv_room (Nat.le_of_ble_eq_true rfl)) dX3_layerAt_2 ⟨Nat.zero_le _, Nat.zero_le _⟩) (fun H locs hP hD hS => ?_)
  refine cb_eq (tgt := 17) hx hb dX3_layerAt_5 (by decide) (fun c_5 => absurd c_5 (by decide)) (fun c_5 => ?_)
  refine lv_aload_n hx hb dX3_layerAt_8 rfl (lv_at hl 0 rfl) ?_
  refine va_get (D := D) (ci := 3) (v := .ref u2) (C := RX3) (T := TX3) (N := 6) hx hb hts hinX3 hown hK hP 0 rfl rfl 1 (by decide) hf15 (fun _ h9 => h9) rfl dX3_layerAt_9 ?_
  refine lv_iload_n hx hb dX3_layerAt_12 rfl (lv_at hl 1 rfl) ?_
  refine ald_N hx hb hK hP 2 0 rfl rfl iu rfl (by omega) (Nat.le_of_ble_eq_true rfl) dX3_layerAt_13 ?_
  refine lv_goto (tgt := 18) hx hb dX3_layerAt_14 (by decide) ?_
  exact fin_i hx hb hr hlocks hP hD hS (rfl) dX3_layerAt_18
set_option maxHeartbeats 4000000 in
set_option maxRecDepth 100000 in
theorem c_X3_sizeAt (l : Launch) (D : va_G) (cI cJ cZ : ClassId) (h0 : Nat) (u1 : Nat) (u2 : Nat) (u3 : Nat) (u4 : Nat) (u5 : Nat) (PK : Nat → Nat) (PL : Nat → Nat) (PS : Nat → Nat) (PN : Nat → Nat) (PM : Nat → Nat) (pn : Nat) (iu : Nat) (hiu : iu < pn) (hpn : pn ≤ 100) (sz : Nat) : Met l yX3_sizeAt wsX3_sizeAt ({ frames := 1, cells := 0, slots := 0, locals := 21 } : Room) (va_Pc [.ref h0, .int (nI iu)] (mPre D cI cJ cZ [(h0, .inr (3, [.ref u1, .ref u2, .ref u3, .ref u4, .ref u5, .int (nI pn)])), (u1, .inl (cI, 100, .inl (nA PK))), (u2, .inl (cI, 100, .inl (nA PL))), (u3, .inl (cI, 100, .inl (nA PS))), (u4, .inl (cI, 100, .inl (nA PN))), (u5, .inl (cI, 100, .inl (nA PM)))] sz)) (Qi9 D (va_A [(h0, .inr (3, [.ref u1, .ref u2, .ref u3, .ref u4, .ref u5, .int (nI pn)])), (u1, .inl (cI, 100, .inl (nA PK))), (u2, .inl (cI, 100, .inl (nA PL))), (u3, .inl (cI, 100, .inl (nA PS))), (u4, .inl (cI, 100, .inl (nA PN))), (u5, .inl (cI, 100, .inl (nA PM)))] sz) [(h0, .inr (3, [.ref u1, .ref u2, .ref u3, .ref u4, .ref u5, .int (nI pn)])), (u1, .inl (cI, 100, .inl (nA PK))), (u2, .inl (cI, 100, .inl (nA PL))), (u3, .inl (cI, 100, .inl (nA PS))), (u4, .inl (cI, 100, .inl (nA PN))), (u5, .inl (cI, 100, .inl (nA PM)))] (nI (PS iu))) 0 0 (va_A [(h0, .inr (3, [.ref u1, .ref u2, .ref u3, .ref u4, .ref u5, .int (nI pn)])), (u1, .inl (cI, 100, .inl (nA PK))), (u2, .inl (cI, 100, .inl (nA PL))), (u3, .inl (cI, 100, .inl (nA PS))), (u4, .inl (cI, 100, .inl (nA PN))), (u5, .inl (cI, 100, .inl (nA PM)))] sz) := by
  refine Met.ofW (cc := cX3_sizeAt) (maxL := 2) (ret := (some .int)) (by decide) rfl ?_
  intro p e s m args below meth c s₁ B hml hv
  obtain ⟨hargs, hsz, hP, hT, hD0⟩ := hv
  have hx := B.exec
  have hb := B.bytes
  have hr := B.returns
  have hts := atoms_spec (ws := wsX3_sizeAt) B.pre
  have hown : s.vm.findClass RX3 = some m.cls := findClass_of_methodNamed B.named
  have hlocks := B.notSynchronized
  subst hsz
  have hK := hT.1
  have hD := hD0.self (sz := s.heap.size)
  generalize hAe : va_A [(h0, .inr (3, [.ref u1, .ref u2, .ref u3, .ref u4, .ref u5, .int (nI pn)])), (u1, .inl (cI, 100, .inl (nA PK))), (u2, .inl (cI, 100, .inl (nA PL))), (u3, .inl (cI, 100, .inl (nA PS))), (u4, .inl (cI, 100, .inl (nA PN))), (u5, .inl (cI, 100, .inl (nA PM)))] s.heap.size = A at hD ⊢
  have hA : ∀ q : Nat, s.heap.size ≤ q → A q := fun q h => by rw [← hAe]; exact Or.inr h
  have hS : va_S A s.heap s.heap [] := va_S.rf
  obtain ⟨H, hHe⟩ : ∃ H : Heap, H = s.heap := ⟨_, rfl⟩
  have hS : va_S A s.heap H [] := by rw [hHe]; exact va_S.rf
  rw [← hHe] at hP
  suffices K0 : W p l e (headSpec wsX3_sizeAt ({ frames := 1, cells := 0, slots := 0, locals := 21 } : Room)).room s m args below meth c H [] 0 0 (MQ below (Qi9 D A [(h0, .inr (3, [.ref u1, .ref u2, .ref u3, .ref u4, .ref u5, .int (nI pn)])), (u1, .inl (cI, 100, .inl (nA PK))), (u2, .inl (cI, 100, .inl (nA PL))), (u3, .inl (cI, 100, .inl (nA PS))), (u4, .inl (cI, 100, .inl (nA PN))), (u5, .inl (cI, 100, .inl (nA PM)))] (nI (PS iu))) args s 0 0 A) (entryFrame m args 2) by rw [hHe] at K0; exact K0
  refine W.eq (g2 := entryFrame m ([.ref h0, .int (nI iu)] : List Value).toArray 2) (by rw [hargs]) ?_
  have hl := lv_entry ([.ref h0, .int (nI iu)]) (n := 2) (Nat.le_of_ble_eq_true rfl)
  rw [lg_entry_eq]
  generalize (lg_sl ([.ref h0, .int (nI iu)]) ++ List.replicate (2 - (lg_sl ([.ref h0, .int (nI iu)])).length) Slot.unset).toArray = ls at hl ⊢
  have hl : lv_has ls 2 [(0, .ref h0), (1, .int (nI iu))] := hl
  generalize ([] : List Loc) = locs at hS ⊢
  have hinX3 : ∀ w ∈ wsX30, w ∈ wsX3_sizeAt := by decide +kernel
  have hf18 := hts (.fieldLink RX3 18 "Brightband$Puts" "sizes" "[I") (by decide +kernel)
  refine lv_aload_n hx hb dX3_sizeAt_0 rfl (lv_at hl 0 rfl) ?_
  refine lv_iload_n hx hb dX3_sizeAt_1 rfl (lv_at hl 1 rfl) ?_
  refine cr_i (wc := [(h0, .inr (3, [.ref u1, .ref u2, .ref u3, .ref u4, .ref u5, .int (nI pn)])), (u1, .inl (cI, 100, .inl (nA PK))), (u2, .inl (cI, 100, .inl (nA PL))), (u3, .inl (cI, 100, .inl (nA PS))), (u4, .inl (cI, 100, .inl (nA PN))), (u5, .inl (cI, 100, .inl (nA PM)))]) (w1 := [(h0, .inr (3, [.ref u1, .ref u2, .ref u3, .ref u4, .ref u5, .int (nI pn)])), (u1, .inl (cI, 100, .inl (nA PK))), (u2, .inl (cI, 100, .inl (nA PL))), (u3, .inl (cI, 100, .inl (nA PS))), (u4, .inl (cI, 100, .inl (nA PN))), (u5, .inl (cI, 100, .inl (nA PM)))]) (ws2 := [(h0, .inr (3, [.ref u1, .ref u2, .ref u3, .ref u4, .ref u5, .int (nI pn)])), (u1, .inl (cI, 100, .inl (nA PK))), (u2, .inl (cI, 100, .inl (nA PL))), (u3, .inl (cI, 100, .inl (nA PS))), (u4, .inl (cI, 100, .inl (nA PN))), (u5, .inl (cI, 100, .inl (nA PM)))]) hP hD hS hA [0, 1, 2, 3, 4, 5] rfl rfl rfl (va_runV (As := [.int (nI iu)]) (rest := []) ⟨hx, hb, hml, hown, hts⟩ (c_X3_has l D cI cJ cZ h0 u1 u2 u3 u4 u5 PK PL PS PN PM pn iu (by omega) (by omega) H.size) (cwV 1 hts gX3_sizeAt_X3_has rfl rfl rfl (by decide +kernel) ⟨Nat.le_of_ble_eq_true rfl, Nat.le_of_ble_eq_true rfl⟩) (pvV hT hP hD [0, 1, 2, 3, 4, 5] rfl rfl 0 rfl rfl) rfl rfl hl.1 rfl (lv_room (Nat.le_of_ble_eq_true rfl)) dX3_sizeAt_2 ⟨Nat.zero_le _, Nat.zero_le _⟩) (fun H locs hP hD hS => ?_)
  refine cb_eq (tgt := 17) hx hb dX3_sizeAt_5 (by decide) (fun c_5 => absurd c_5 (by decide)) (fun c_5 => ?_)
  refine lv_aload_n hx hb dX3_sizeAt_8 rfl (lv_at hl 0 rfl) ?_
  refine va_get (D := D) (ci := 3) (v := .ref u3) (C := RX3) (T := TX3) (N := 6) hx hb hts hinX3 hown hK hP 0 rfl rfl 2 (by decide) hf18 (fun _ h9 => h9) rfl dX3_sizeAt_9 ?_
  refine lv_iload_n hx hb dX3_sizeAt_12 rfl (lv_at hl 1 rfl) ?_
  refine ald_N hx hb hK hP 3 0 rfl rfl iu rfl (by omega) (Nat.le_of_ble_eq_true rfl) dX3_sizeAt_13 ?_
  refine lv_goto (tgt := 18) hx hb dX3_sizeAt_14 (by decide) ?_
  exact fin_i hx hb hr hlocks hP hD hS (rfl) dX3_sizeAt_18
set_option maxHeartbeats 4000000 in
set_option maxRecDepth 100000 in
theorem c_X3_minuteAt (l : Launch) (D : va_G) (cI cJ cZ : ClassId) (h0 : Nat) (u1 : Nat) (u2 : Nat) (u3 : Nat) (u4 : Nat) (u5 : Nat) (PK : Nat → Nat) (PL : Nat → Nat) (PS : Nat → Nat) (PN : Nat → Nat) (PM : Nat → Nat) (pn : Nat) (iu : Nat) (hiu : iu < pn) (hpn : pn ≤ 100) (sz : Nat) : Met l yX3_minuteAt wsX3_minuteAt ({ frames := 1, cells := 0, slots := 0, locals := 21 } : Room) (va_Pc [.ref h0, .int (nI iu)] (mPre D cI cJ cZ [(h0, .inr (3, [.ref u1, .ref u2, .ref u3, .ref u4, .ref u5, .int (nI pn)])), (u1, .inl (cI, 100, .inl (nA PK))), (u2, .inl (cI, 100, .inl (nA PL))), (u3, .inl (cI, 100, .inl (nA PS))), (u4, .inl (cI, 100, .inl (nA PN))), (u5, .inl (cI, 100, .inl (nA PM)))] sz)) (Qi9 D (va_A [(h0, .inr (3, [.ref u1, .ref u2, .ref u3, .ref u4, .ref u5, .int (nI pn)])), (u1, .inl (cI, 100, .inl (nA PK))), (u2, .inl (cI, 100, .inl (nA PL))), (u3, .inl (cI, 100, .inl (nA PS))), (u4, .inl (cI, 100, .inl (nA PN))), (u5, .inl (cI, 100, .inl (nA PM)))] sz) [(h0, .inr (3, [.ref u1, .ref u2, .ref u3, .ref u4, .ref u5, .int (nI pn)])), (u1, .inl (cI, 100, .inl (nA PK))), (u2, .inl (cI, 100, .inl (nA PL))), (u3, .inl (cI, 100, .inl (nA PS))), (u4, .inl (cI, 100, .inl (nA PN))), (u5, .inl (cI, 100, .inl (nA PM)))] (nI (PM iu))) 0 0 (va_A [(h0, .inr (3, [.ref u1, .ref u2, .ref u3, .ref u4, .ref u5, .int (nI pn)])), (u1, .inl (cI, 100, .inl (nA PK))), (u2, .inl (cI, 100, .inl (nA PL))), (u3, .inl (cI, 100, .inl (nA PS))), (u4, .inl (cI, 100, .inl (nA PN))), (u5, .inl (cI, 100, .inl (nA PM)))] sz) := by
  refine Met.ofW (cc := cX3_minuteAt) (maxL := 2) (ret := (some .int)) (by decide) rfl ?_
  intro p e s m args below meth c s₁ B hml hv
  obtain ⟨hargs, hsz, hP, hT, hD0⟩ := hv
  have hx := B.exec
  have hb := B.bytes
  have hr := B.returns
  have hts := atoms_spec (ws := wsX3_minuteAt) B.pre
  have hown : s.vm.findClass RX3 = some m.cls := findClass_of_methodNamed B.named
  have hlocks := B.notSynchronized
  subst hsz
  have hK := hT.1
  have hD := hD0.self (sz := s.heap.size)
  generalize hAe : va_A [(h0, .inr (3, [.ref u1, .ref u2, .ref u3, .ref u4, .ref u5, .int (nI pn)])), (u1, .inl (cI, 100, .inl (nA PK))), (u2, .inl (cI, 100, .inl (nA PL))), (u3, .inl (cI, 100, .inl (nA PS))), (u4, .inl (cI, 100, .inl (nA PN))), (u5, .inl (cI, 100, .inl (nA PM)))] s.heap.size = A at hD ⊢
  have hA : ∀ q : Nat, s.heap.size ≤ q → A q := fun q h => by rw [← hAe]; exact Or.inr h
  have hS : va_S A s.heap s.heap [] := va_S.rf
  obtain ⟨H, hHe⟩ : ∃ H : Heap, H = s.heap := ⟨_, rfl⟩
  have hS : va_S A s.heap H [] := by rw [hHe]; exact va_S.rf
  rw [← hHe] at hP
  suffices K0 : W p l e (headSpec wsX3_minuteAt ({ frames := 1, cells := 0, slots := 0, locals := 21 } : Room)).room s m args below meth c H [] 0 0 (MQ below (Qi9 D A [(h0, .inr (3, [.ref u1, .ref u2, .ref u3, .ref u4, .ref u5, .int (nI pn)])), (u1, .inl (cI, 100, .inl (nA PK))), (u2, .inl (cI, 100, .inl (nA PL))), (u3, .inl (cI, 100, .inl (nA PS))), (u4, .inl (cI, 100, .inl (nA PN))), (u5, .inl (cI, 100, .inl (nA PM)))] (nI (PM iu))) args s 0 0 A) (entryFrame m args 2) by rw [hHe] at K0; exact K0
  refine W.eq (g2 := entryFrame m ([.ref h0, .int (nI iu)] : List Value).toArray 2) (by rw [hargs]) ?_
  have hl := lv_entry ([.ref h0, .int (nI iu)]) (n := 2) (Nat.le_of_ble_eq_true rfl)
  rw [lg_entry_eq]
  generalize (lg_sl ([.ref h0, .int (nI iu)]) ++ List.replicate (2 - (lg_sl ([.ref h0, .int (nI iu)])).length) Slot.unset).toArray = ls at hl ⊢
  have hl : lv_has ls 2 [(0, .ref h0), (1, .int (nI iu))] := hl
  generalize ([] : List Loc) = locs at hS ⊢
  have hinX3 : ∀ w ∈ wsX30, w ∈ wsX3_minuteAt := by decide +kernel
  have hf24 := hts (.fieldLink RX3 24 "Brightband$Puts" "minutes" "[I") (by decide +kernel)
  refine lv_aload_n hx hb dX3_minuteAt_0 rfl (lv_at hl 0 rfl) ?_
  refine lv_iload_n hx hb dX3_minuteAt_1 rfl (lv_at hl 1 rfl) ?_
  refine cr_i (wc := [(h0, .inr (3, [.ref u1, .ref u2, .ref u3, .ref u4, .ref u5, .int (nI pn)])), (u1, .inl (cI, 100, .inl (nA PK))), (u2, .inl (cI, 100, .inl (nA PL))), (u3, .inl (cI, 100, .inl (nA PS))), (u4, .inl (cI, 100, .inl (nA PN))), (u5, .inl (cI, 100, .inl (nA PM)))]) (w1 := [(h0, .inr (3, [.ref u1, .ref u2, .ref u3, .ref u4, .ref u5, .int (nI pn)])), (u1, .inl (cI, 100, .inl (nA PK))), (u2, .inl (cI, 100, .inl (nA PL))), (u3, .inl (cI, 100, .inl (nA PS))), (u4, .inl (cI, 100, .inl (nA PN))), (u5, .inl (cI, 100, .inl (nA PM)))]) (ws2 := [(h0, .inr (3, [.ref u1, .ref u2, .ref u3, .ref u4, .ref u5, .int (nI pn)])), (u1, .inl (cI, 100, .inl (nA PK))), (u2, .inl (cI, 100, .inl (nA PL))), (u3, .inl (cI, 100, .inl (nA PS))), (u4, .inl (cI, 100, .inl (nA PN))), (u5, .inl (cI, 100, .inl (nA PM)))]) hP hD hS hA [0, 1, 2, 3, 4, 5] rfl rfl rfl (va_runV (As := [.int (nI iu)]) (rest := []) ⟨hx, hb, hml, hown, hts⟩ (c_X3_has l D cI cJ cZ h0 u1 u2 u3 u4 u5 PK PL PS PN PM pn iu (by omega) (by omega) H.size) (cwV 1 hts gX3_minuteAt_X3_has rfl rfl rfl (by decide +kernel) ⟨Nat.le_of_ble_eq_true rfl, Nat.le_of_ble_eq_true rfl⟩) (pvV hT hP hD [0, 1, 2, 3, 4, 5] rfl rfl 0 rfl rfl) rfl rfl hl.1 rfl (lv_room (Nat.le_of_ble_eq_true rfl)) dX3_minuteAt_2 ⟨Nat.zero_le _, Nat.zero_le _⟩) (fun H locs hP hD hS => ?_)
  refine cb_eq (tgt := 17) hx hb dX3_minuteAt_5 (by decide) (fun c_5 => absurd c_5 (by decide)) (fun c_5 => ?_)
  refine lv_aload_n hx hb dX3_minuteAt_8 rfl (lv_at hl 0 rfl) ?_
  refine va_get (D := D) (ci := 3) (v := .ref u5) (C := RX3) (T := TX3) (N := 6) hx hb hts hinX3 hown hK hP 0 rfl rfl 4 (by decide) hf24 (fun _ h9 => h9) rfl dX3_minuteAt_9 ?_
  refine lv_iload_n hx hb dX3_minuteAt_12 rfl (lv_at hl 1 rfl) ?_
  refine ald_N hx hb hK hP 5 0 rfl rfl iu rfl (by omega) (Nat.le_of_ble_eq_true rfl) dX3_minuteAt_13 ?_
  refine lv_goto (tgt := 18) hx hb dX3_minuteAt_14 (by decide) ?_
  exact fin_i hx hb hr hlocks hP hD hS (rfl) dX3_minuteAt_18
set_option maxHeartbeats 4000000 in
set_option maxRecDepth 100000 in
theorem c_X3_waterAt (l : Launch) (D : va_G) (cI cJ cZ : ClassId) (h0 : Nat) (u1 : Nat) (u2 : Nat) (u3 : Nat) (u4 : Nat) (u5 : Nat) (PK : Nat → Nat) (PL : Nat → Nat) (PS : Nat → Nat) (PN : Nat → Nat) (PM : Nat → Nat) (pn : Nat) (iu : Nat) (hiu : iu < pn) (hpn : pn ≤ 100) (sz : Nat) : Met l yX3_waterAt wsX3_waterAt ({ frames := 1, cells := 0, slots := 0, locals := 21 } : Room) (va_Pc [.ref h0, .int (nI iu)] (mPre D cI cJ cZ [(h0, .inr (3, [.ref u1, .ref u2, .ref u3, .ref u4, .ref u5, .int (nI pn)])), (u1, .inl (cI, 100, .inl (nA PK))), (u2, .inl (cI, 100, .inl (nA PL))), (u3, .inl (cI, 100, .inl (nA PS))), (u4, .inl (cI, 100, .inl (nA PN))), (u5, .inl (cI, 100, .inl (nA PM)))] sz)) (Ql9 D (va_A [(h0, .inr (3, [.ref u1, .ref u2, .ref u3, .ref u4, .ref u5, .int (nI pn)])), (u1, .inl (cI, 100, .inl (nA PK))), (u2, .inl (cI, 100, .inl (nA PL))), (u3, .inl (cI, 100, .inl (nA PS))), (u4, .inl (cI, 100, .inl (nA PN))), (u5, .inl (cI, 100, .inl (nA PM)))] sz) [(h0, .inr (3, [.ref u1, .ref u2, .ref u3, .ref u4, .ref u5, .int (nI pn)])), (u1, .inl (cI, 100, .inl (nA PK))), (u2, .inl (cI, 100, .inl (nA PL))), (u3, .inl (cI, 100, .inl (nA PS))), (u4, .inl (cI, 100, .inl (nA PN))), (u5, .inl (cI, 100, .inl (nA PM)))] (wtr (PS iu) (PN iu))) 0 0 (va_A [(h0, .inr (3, [.ref u1, .ref u2, .ref u3, .ref u4, .ref u5, .int (nI pn)])), (u1, .inl (cI, 100, .inl (nA PK))), (u2, .inl (cI, 100, .inl (nA PL))), (u3, .inl (cI, 100, .inl (nA PS))), (u4, .inl (cI, 100, .inl (nA PN))), (u5, .inl (cI, 100, .inl (nA PM)))] sz) := by
  refine Met.ofW (cc := cX3_waterAt) (maxL := 2) (ret := (some .long)) (by decide) rfl ?_
  intro p e s m args below meth c s₁ B hml hv
  obtain ⟨hargs, hsz, hP, hT, hD0⟩ := hv
  have hx := B.exec
  have hb := B.bytes
  have hr := B.returns
  have hts := atoms_spec (ws := wsX3_waterAt) B.pre
  have hown : s.vm.findClass RX3 = some m.cls := findClass_of_methodNamed B.named
  have hlocks := B.notSynchronized
  subst hsz
  have hK := hT.1
  have hD := hD0.self (sz := s.heap.size)
  generalize hAe : va_A [(h0, .inr (3, [.ref u1, .ref u2, .ref u3, .ref u4, .ref u5, .int (nI pn)])), (u1, .inl (cI, 100, .inl (nA PK))), (u2, .inl (cI, 100, .inl (nA PL))), (u3, .inl (cI, 100, .inl (nA PS))), (u4, .inl (cI, 100, .inl (nA PN))), (u5, .inl (cI, 100, .inl (nA PM)))] s.heap.size = A at hD ⊢
  have hA : ∀ q : Nat, s.heap.size ≤ q → A q := fun q h => by rw [← hAe]; exact Or.inr h
  have hS : va_S A s.heap s.heap [] := va_S.rf
  obtain ⟨H, hHe⟩ : ∃ H : Heap, H = s.heap := ⟨_, rfl⟩
  have hS : va_S A s.heap H [] := by rw [hHe]; exact va_S.rf
  rw [← hHe] at hP
  suffices K0 : W p l e (headSpec wsX3_waterAt ({ frames := 1, cells := 0, slots := 0, locals := 21 } : Room)).room s m args below meth c H [] 0 0 (MQ below (Ql9 D A [(h0, .inr (3, [.ref u1, .ref u2, .ref u3, .ref u4, .ref u5, .int (nI pn)])), (u1, .inl (cI, 100, .inl (nA PK))), (u2, .inl (cI, 100, .inl (nA PL))), (u3, .inl (cI, 100, .inl (nA PS))), (u4, .inl (cI, 100, .inl (nA PN))), (u5, .inl (cI, 100, .inl (nA PM)))] (wtr (PS iu) (PN iu))) args s 0 0 A) (entryFrame m args 2) by rw [hHe] at K0; exact K0
  refine W.eq (g2 := entryFrame m ([.ref h0, .int (nI iu)] : List Value).toArray 2) (by rw [hargs]) ?_
  have hl := lv_entry ([.ref h0, .int (nI iu)]) (n := 2) (Nat.le_of_ble_eq_true rfl)
  rw [lg_entry_eq]
  generalize (lg_sl ([.ref h0, .int (nI iu)]) ++ List.replicate (2 - (lg_sl ([.ref h0, .int (nI iu)])).length) Slot.unset).toArray = ls at hl ⊢
  have hl : lv_has ls 2 [(0, .ref h0), (1, .int (nI iu))] := hl
  generalize ([] : List Loc) = locs at hS ⊢
  have hinX3 : ∀ w ∈ wsX30, w ∈ wsX3_waterAt := by decide +kernel
  have hf18 := hts (.fieldLink RX3 18 "Brightband$Puts" "sizes" "[I") (by decide +kernel)
  have hf21 := hts (.fieldLink RX3 21 "Brightband$Puts" "numbers" "[I") (by decide +kernel)
  refine lv_aload_n hx hb dX3_waterAt_0 rfl (lv_at hl 0 rfl) ?_
  refine lv_iload_n hx hb dX3_waterAt_1 rfl (lv_at hl 1 rfl) ?_
  refine cr_i (wc := [(h0, .inr (3, [.ref u1, .ref u2, .ref u3, .ref u4, .ref u5, .int (nI pn)])), (u1, .inl (cI, 100, .inl (nA PK))), (u2, .inl (cI, 100, .inl (nA PL))), (u3, .inl (cI, 100, .inl (nA PS))), (u4, .inl (cI, 100, .inl (nA PN))), (u5, .inl (cI, 100, .inl (nA PM)))]) (w1 := [(h0, .inr (3, [.ref u1, .ref u2, .ref u3, .ref u4, .ref u5, .int (nI pn)])), (u1, .inl (cI, 100, .inl (nA PK))), (u2, .inl (cI, 100, .inl (nA PL))), (u3, .inl (cI, 100, .inl (nA PS))), (u4, .inl (cI, 100, .inl (nA PN))), (u5, .inl (cI, 100, .inl (nA PM)))]) (ws2 := [(h0, .inr (3, [.ref u1, .ref u2, .ref u3, .ref u4, .ref u5, .int (nI pn)])), (u1, .inl (cI, 100, .inl (nA PK))), (u2, .inl (cI, 100, .inl (nA PL))), (u3, .inl (cI, 100, .inl (nA PS))), (u4, .inl (cI, 100, .inl (nA PN))), (u5, .inl (cI, 100, .inl (nA PM)))]) hP hD hS hA [0, 1, 2, 3, 4, 5] rfl rfl rfl (va_runV (As := [.int (nI iu)]) (rest := []) ⟨hx, hb, hml, hown, hts⟩ (c_X3_has l D cI cJ cZ h0 u1 u2 u3 u4 u5 PK PL PS PN PM pn iu (by omega) (by omega) H.size) (cwV 1 hts gX3_waterAt_X3_has rfl rfl rfl (by decide +kernel) ⟨Nat.le_of_ble_eq_true rfl, Nat.le_of_ble_eq_true rfl⟩) (pvV hT hP hD [0, 1, 2, 3, 4, 5] rfl rfl 0 rfl rfl) rfl rfl hl.1 rfl (lv_room (Nat.le_of_ble_eq_true rfl)) dX3_waterAt_2 ⟨Nat.zero_le _, Nat.zero_le _⟩) (fun H locs hP hD hS => ?_)
  refine cb_eq (tgt := 26) hx hb dX3_waterAt_5 (by decide) (fun c_5 => absurd c_5 (by decide)) (fun c_5 => ?_)
  refine lv_aload_n hx hb dX3_waterAt_8 rfl (lv_at hl 0 rfl) ?_
  refine va_get (D := D) (ci := 3) (v := .ref u3) (C := RX3) (T := TX3) (N := 6) hx hb hts hinX3 hown hK hP 0 rfl rfl 2 (by decide) hf18 (fun _ h9 => h9) rfl dX3_waterAt_9 ?_
  refine lv_iload_n hx hb dX3_waterAt_12 rfl (lv_at hl 1 rfl) ?_
  refine ald_N hx hb hK hP 3 0 rfl rfl iu rfl (by omega) (Nat.le_of_ble_eq_true rfl) dX3_waterAt_13 ?_
  refine lv_aload_n hx hb dX3_waterAt_14 rfl (lv_at hl 0 rfl) ?_
  refine va_get (D := D) (ci := 3) (v := .ref u4) (C := RX3) (T := TX3) (N := 6) hx hb hts hinX3 hown hK hP 0 rfl rfl 3 (by decide) hf21 (fun _ h9 => h9) rfl dX3_waterAt_15 ?_
  refine lv_iload_n hx hb dX3_waterAt_18 rfl (lv_at hl 1 rfl) ?_
  refine ald_N hx hb hK hP 4 0 rfl rfl iu rfl (by omega) (Nat.le_of_ble_eq_true rfl) dX3_waterAt_19 ?_
  refine cr_l (wc := []) (w1 := []) (ws2 := [(h0, .inr (3, [.ref u1, .ref u2, .ref u3, .ref u4, .ref u5, .int (nI pn)])), (u1, .inl (cI, 100, .inl (nA PK))), (u2, .inl (cI, 100, .inl (nA PL))), (u3, .inl (cI, 100, .inl (nA PS))), (u4, .inl (cI, 100, .inl (nA PN))), (u5, .inl (cI, 100, .inl (nA PM)))]) hP hD hS hA [] rfl rfl rfl (va_runSN (As := [.int (nI (PS iu)), .int (nI (PN iu))]) (rest := []) ⟨hx, hb, hml, hown, hts⟩ (c_X5_waterOf l D cI cJ cZ (PS iu) (PN iu) H.size) ⟨va_cnB 2 hts gX3_waterAt_X5_waterOf_n35 rfl rfl rfl hT.2.2.2.2.2.2.2.2.1 (hts (.initialized RX5) (by decide +kernel)) (by decide +kernel) ⟨Nat.le_of_ble_eq_true rfl, Nat.le_of_ble_eq_true rfl⟩, hts (.static yX5_waterOf) (by decide +kernel), trivial⟩ (pvS hT hP hD [] rfl rfl) rfl rfl hl.1 rfl (lv_room (Nat.le_of_ble_eq_true rfl)) dX3_waterAt_20 ⟨Nat.zero_le _, Nat.zero_le _⟩) (fun H locs hP hD hS => ?_)
  refine lv_goto (tgt := 27) hx hb dX3_waterAt_23 (by decide) ?_
  exact fin_l hx hb hr hlocks hP hD hS (rfl) dX3_waterAt_27
set_option maxHeartbeats 4000000 in
set_option maxRecDepth 100000 in
theorem c_X4_begin (l : Launch) (D : va_G) (cI cJ cZ : ClassId) (h0 : Nat) (s1 : Nat) (s2 : Nat) (EC : Nat → Int64) (RU : Nat → Nat) (sm : Nat) (ru : Nat) (hsm : sm < 30) (sz : Nat) : Met l yX4_begin wsX4_begin ({ frames := 0, cells := 0, slots := 0, locals := 0 } : Room) (va_Pc [.ref h0, .int (nI ru)] (mPre D cI cJ cZ [(h0, .inr (4, [.ref s1, .ref s2, .int (nI sm)])), (s1, .inl (cJ, 600, .inr (.inl EC))), (s2, .inl (cI, 30, .inl (nA RU)))] sz)) (Qv9 D (va_A [(h0, .inr (4, [.ref s1, .ref s2, .int (nI sm)])), (s1, .inl (cJ, 600, .inr (.inl EC))), (s2, .inl (cI, 30, .inl (nA RU)))] sz) [(h0, .inr (4, [.ref s1, .ref s2, .int (nI (sm + 1))])), (s1, .inl (cJ, 600, .inr (.inl EC))), (s2, .inl (cI, 30, .inl (nA (uN RU sm ru))))]) 0 0 (va_A [(h0, .inr (4, [.ref s1, .ref s2, .int (nI sm)])), (s1, .inl (cJ, 600, .inr (.inl EC))), (s2, .inl (cI, 30, .inl (nA RU)))] sz) := by
  refine Met.ofW (cc := cX4_begin) (maxL := 2) (ret := none) (by decide) rfl ?_
  intro p e s m args below meth c s₁ B hml hv
  obtain ⟨hargs, hsz, hP, hT, hD0⟩ := hv
  have hx := B.exec
  have hb := B.bytes
  have hr := B.returns
  have hts := atoms_spec (ws := wsX4_begin) B.pre
  have hown : s.vm.findClass RX4 = some m.cls := findClass_of_methodNamed B.named
  have hlocks := B.notSynchronized
  subst hsz
  have hK := hT.1
  have hD := hD0.self (sz := s.heap.size)
  generalize hAe : va_A [(h0, .inr (4, [.ref s1, .ref s2, .int (nI sm)])), (s1, .inl (cJ, 600, .inr (.inl EC))), (s2, .inl (cI, 30, .inl (nA RU)))] s.heap.size = A at hD ⊢
  have hA : ∀ q : Nat, s.heap.size ≤ q → A q := fun q h => by rw [← hAe]; exact Or.inr h
  have hS : va_S A s.heap s.heap [] := va_S.rf
  obtain ⟨H, hHe⟩ : ∃ H : Heap, H = s.heap := ⟨_, rfl⟩
  have hS : va_S A s.heap H [] := by rw [hHe]; exact va_S.rf
  rw [← hHe] at hP
  suffices K0 : W p l e (headSpec wsX4_begin ({ frames := 0, cells := 0, slots := 0, locals := 0 } : Room)).room s m args below meth c H [] 0 0 (MQ below (Qv9 D A [(h0, .inr (4, [.ref s1, .ref s2, .int (nI (sm + 1))])), (s1, .inl (cJ, 600, .inr (.inl EC))), (s2, .inl (cI, 30, .inl (nA (uN RU sm ru))))]) args s 0 0 A) (entryFrame m args 2) by rw [hHe] at K0; exact K0
  refine W.eq (g2 := entryFrame m ([.ref h0, .int (nI ru)] : List Value).toArray 2) (by rw [hargs]) ?_
  have hl := lv_entry ([.ref h0, .int (nI ru)]) (n := 2) (Nat.le_of_ble_eq_true rfl)
  rw [lg_entry_eq]
  generalize (lg_sl ([.ref h0, .int (nI ru)]) ++ List.replicate (2 - (lg_sl ([.ref h0, .int (nI ru)])).length) Slot.unset).toArray = ls at hl ⊢
  have hl : lv_has ls 2 [(0, .ref h0), (1, .int (nI ru))] := hl
  generalize ([] : List Loc) = locs at hS ⊢
  have hinX4 : ∀ w ∈ wsX40, w ∈ wsX4_begin := by decide +kernel
  have hf19 := hts (.fieldLink RX4 19 "Brightband$Scans" "made" "I") (by decide +kernel)
  have hf15 := hts (.fieldLink RX4 15 "Brightband$Scans" "rules" "[I") (by decide +kernel)
  refine lv_aload_n hx hb dX4_begin_0 rfl (lv_at hl 0 rfl) ?_
  refine va_get (D := D) (ci := 4) (v := .int (nI sm)) (C := RX4) (T := TX4) (N := 3) hx hb hts hinX4 hown hK hP 0 rfl rfl 2 (by decide) hf19 (fun _ h9 => h9) rfl dX4_begin_1 ?_
  refine lv_bipush (v := nI 30) hx hb dX4_begin_4 (by decide) ?_
  refine ci_ge (tgt := 29) hx hb dX4_begin_6 (by decide) (nT (by omega)) (nT (by omega)) (fun c_6 => by omega) (fun c_6 => ?_)
  refine lv_aload_n hx hb dX4_begin_9 rfl (lv_at hl 0 rfl) ?_
  refine va_get (D := D) (ci := 4) (v := .ref s2) (C := RX4) (T := TX4) (N := 3) hx hb hts hinX4 hown hK hP 0 rfl rfl 1 (by decide) hf15 (fun _ h9 => h9) rfl dX4_begin_10 ?_
  refine lv_aload_n hx hb dX4_begin_13 rfl (lv_at hl 0 rfl) ?_
  refine va_get (D := D) (ci := 4) (v := .int (nI sm)) (C := RX4) (T := TX4) (N := 3) hx hb hts hinX4 hown hK hP 0 rfl rfl 2 (by decide) hf19 (fun _ h9 => h9) rfl dX4_begin_14 ?_
  refine lv_iload_n hx hb dX4_begin_17 rfl (lv_at hl 1 rfl) ?_
  refine ast_N (x := ru) hx hb hK hP hD hS 2 0 rfl rfl sm rfl (by omega) (Nat.le_of_ble_eq_true rfl) dX4_begin_18 (fun H locs hP hD hS => ?_)
  have hP : va_P D vwCl [(h0, .inr (4, [.ref s1, .ref s2, .int (nI sm)])), (s1, .inl (cJ, 600, .inr (.inl EC))), (s2, .inl (cI, 30, .inl (nA (uN RU sm ru))))] H := hP
  have hD : va_D A [(h0, .inr (4, [.ref s1, .ref s2, .int (nI sm)])), (s1, .inl (cJ, 600, .inr (.inl EC))), (s2, .inl (cI, 30, .inl (nA (uN RU sm ru))))] := hD
  refine lv_aload_n hx hb dX4_begin_19 rfl (lv_at hl 0 rfl) ?_
  refine lv_dup hx hb dX4_begin_20 rfl ?_
  refine va_get (D := D) (ci := 4) (v := .int (nI sm)) (C := RX4) (T := TX4) (N := 3) hx hb hts hinX4 hown hK hP 0 rfl rfl 2 (by decide) hf19 (fun _ h9 => h9) rfl dX4_begin_21 ?_
  refine lv_iconst (v := nI 1) hx hb dX4_begin_24 (by decide) ?_
  refine lv_iadd hx hb dX4_begin_25 ?_
  refine tp_i (nI_add _ _) ?_
  refine va_put (D := D) (ci := 4) (v := .int (nI (sm + 1))) (ty := .int) (C := RX4) (T := TX4) (N := 3) hx hb hts hinX4 tyX4 tyX4_ok nmX4 hown hK hP hD hS 0 rfl rfl 2 (by decide) hf19 (fun _ h9 => h9) rfl (by decide +kernel) rfl rfl (Nat.le_of_ble_eq_true rfl) dX4_begin_26 (fun H locs hP hD hS => ?_)
  have hP : va_P D vwCl [(h0, .inr (4, [.ref s1, .ref s2, .int (nI (sm + 1))])), (s1, .inl (cJ, 600, .inr (.inl EC))), (s2, .inl (cI, 30, .inl (nA (uN RU sm ru))))] H := hP
  have hD : va_D A [(h0, .inr (4, [.ref s1, .ref s2, .int (nI (sm + 1))])), (s1, .inl (cJ, 600, .inr (.inl EC))), (s2, .inl (cI, 30, .inl (nA (uN RU sm ru))))] := hD
  exact fin_v hx hb hr hlocks hP hD hS dX4_begin_29
set_option maxHeartbeats 4000000 in
set_option maxRecDepth 100000 in
theorem c_X4_slotOf_in (l : Launch) (D : va_G) (cI cJ cZ : ClassId) (h0 : Nat) (s1 : Nat) (s2 : Nat) (EC : Nat → Int64) (RU : Nat → Nat) (sm : Nat) (sn : Nat) (ki : Nat) (hsn : sn < sm) (hsm : sm ≤ 30) (hki : ki < 20) (sz : Nat) : Met l yX4_slotOf wsX4_slotOf ({ frames := 0, cells := 0, slots := 0, locals := 0 } : Room) (va_Pc [.ref h0, .int (nI sn), .int (nI ki)] (mPre D cI cJ cZ [(h0, .inr (4, [.ref s1, .ref s2, .int (nI sm)])), (s1, .inl (cJ, 600, .inr (.inl EC))), (s2, .inl (cI, 30, .inl (nA RU)))] sz)) (Qi9 D (va_A [(h0, .inr (4, [.ref s1, .ref s2, .int (nI sm)])), (s1, .inl (cJ, 600, .inr (.inl EC))), (s2, .inl (cI, 30, .inl (nA RU)))] sz) [(h0, .inr (4, [.ref s1, .ref s2, .int (nI sm)])), (s1, .inl (cJ, 600, .inr (.inl EC))), (s2, .inl (cI, 30, .inl (nA RU)))] (nI (20 * sn + ki))) 0 0 (va_A [(h0, .inr (4, [.ref s1, .ref s2, .int (nI sm)])), (s1, .inl (cJ, 600, .inr (.inl EC))), (s2, .inl (cI, 30, .inl (nA RU)))] sz) := by
  refine Met.ofW (cc := cX4_slotOf) (maxL := 3) (ret := (some .int)) (by decide) rfl ?_
  intro p e s m args below meth c s₁ B hml hv
  obtain ⟨hargs, hsz, hP, hT, hD0⟩ := hv
  have hx := B.exec
  have hb := B.bytes
  have hr := B.returns
  have hts := atoms_spec (ws := wsX4_slotOf) B.pre
  have hown : s.vm.findClass RX4 = some m.cls := findClass_of_methodNamed B.named
  have hlocks := B.notSynchronized
  subst hsz
  have hK := hT.1
  have hD := hD0.self (sz := s.heap.size)
  generalize hAe : va_A [(h0, .inr (4, [.ref s1, .ref s2, .int (nI sm)])), (s1, .inl (cJ, 600, .inr (.inl EC))), (s2, .inl (cI, 30, .inl (nA RU)))] s.heap.size = A at hD ⊢
  have hA : ∀ q : Nat, s.heap.size ≤ q → A q := fun q h => by rw [← hAe]; exact Or.inr h
  have hS : va_S A s.heap s.heap [] := va_S.rf
  obtain ⟨H, hHe⟩ : ∃ H : Heap, H = s.heap := ⟨_, rfl⟩
  have hS : va_S A s.heap H [] := by rw [hHe]; exact va_S.rf
  rw [← hHe] at hP
  suffices K0 : W p l e (headSpec wsX4_slotOf ({ frames := 0, cells := 0, slots := 0, locals := 0 } : Room)).room s m args below meth c H [] 0 0 (MQ below (Qi9 D A [(h0, .inr (4, [.ref s1, .ref s2, .int (nI sm)])), (s1, .inl (cJ, 600, .inr (.inl EC))), (s2, .inl (cI, 30, .inl (nA RU)))] (nI (20 * sn + ki))) args s 0 0 A) (entryFrame m args 3) by rw [hHe] at K0; exact K0
  refine W.eq (g2 := entryFrame m ([.ref h0, .int (nI sn), .int (nI ki)] : List Value).toArray 3) (by rw [hargs]) ?_
  have hl := lv_entry ([.ref h0, .int (nI sn), .int (nI ki)]) (n := 3) (Nat.le_of_ble_eq_true rfl)
  rw [lg_entry_eq]
  generalize (lg_sl ([.ref h0, .int (nI sn), .int (nI ki)]) ++ List.replicate (3 - (lg_sl ([.ref h0, .int (nI sn), .int (nI ki)])).length) Slot.unset).toArray = ls at hl ⊢
  have hl : lv_has ls 3 [(0, .ref h0), (1, .int (nI sn)), (2, .int (nI ki))] := hl
  generalize ([] : List Loc) = locs at hS ⊢
  have hinX4 : ∀ w ∈ wsX40, w ∈ wsX4_slotOf := by decide +kernel
  have hf19 := hts (.fieldLink RX4 19 "Brightband$Scans" "made" "I") (by decide +kernel)
  refine lv_iload_n hx hb dX4_slotOf_0 rfl (lv_at hl 1 rfl) ?_
  refine c0_lt (tgt := 28) hx hb dX4_slotOf_1 (by decide) (nT (by omega)) (fun c_1 => by omega) (fun c_1 => ?_)
  refine lv_iload_n hx hb dX4_slotOf_4 rfl (lv_at hl 1 rfl) ?_
  refine lv_aload_n hx hb dX4_slotOf_5 rfl (lv_at hl 0 rfl) ?_
  refine va_get (D := D) (ci := 4) (v := .int (nI sm)) (C := RX4) (T := TX4) (N := 3) hx hb hts hinX4 hown hK hP 0 rfl rfl 2 (by decide) hf19 (fun _ h9 => h9) rfl dX4_slotOf_6 ?_
  refine ci_ge (tgt := 28) hx hb dX4_slotOf_9 (by decide) (nT (by omega)) (nT (by omega)) (fun c_9 => by omega) (fun c_9 => ?_)
  refine lv_iload_n hx hb dX4_slotOf_12 rfl (lv_at hl 1 rfl) ?_
  refine lv_bipush (v := nI 30) hx hb dX4_slotOf_13 (by decide) ?_
  refine ci_ge (tgt := 28) hx hb dX4_slotOf_15 (by decide) (nT (by omega)) (nT (by omega)) (fun c_15 => by omega) (fun c_15 => ?_)
  refine lv_iload_n hx hb dX4_slotOf_18 rfl (lv_at hl 2 rfl) ?_
  refine c0_lt (tgt := 28) hx hb dX4_slotOf_19 (by decide) (nT (by omega)) (fun c_19 => by omega) (fun c_19 => ?_)
  refine lv_iload_n hx hb dX4_slotOf_22 rfl (lv_at hl 2 rfl) ?_
  refine lv_bipush (v := nI 20) hx hb dX4_slotOf_23 (by decide) ?_
  refine ci_lt (tgt := 30) hx hb dX4_slotOf_25 (by decide) (nT (by omega)) (nT (by omega)) (fun c_25 => ?_) (fun c_25 => by omega)
  refine lv_iload_n hx hb dX4_slotOf_30 rfl (lv_at hl 1 rfl) ?_
  refine lv_bipush (v := nI 20) hx hb dX4_slotOf_31 (by decide) ?_
  refine lv_imul hx hb dX4_slotOf_33 ?_
  refine tp_i (pk_mul _ _) ?_
  refine lv_iload_n hx hb dX4_slotOf_34 rfl (lv_at hl 2 rfl) ?_
  refine lv_iadd hx hb dX4_slotOf_35 ?_
  refine tp_i (nI_add _ _) ?_
  exact fin_i hx hb hr hlocks hP hD hS (congrArg nI (by omega)) dX4_slotOf_36
set_option maxHeartbeats 4000000 in
set_option maxRecDepth 100000 in
theorem c_X4_slotOf_out (l : Launch) (D : va_G) (cI cJ cZ : ClassId) (h0 : Nat) (s1 : Nat) (s2 : Nat) (EC : Nat → Int64) (RU : Nat → Nat) (sm : Nat) (sn : Nat) (kz : Int) (hsn : sn < sm) (hsm : sm ≤ 30) (hkz : kz < 0 ∨ 20 ≤ kz) (hk1 : -100 < kz) (hk2 : kz < 100) (sz : Nat) : Met l yX4_slotOf wsX4_slotOf ({ frames := 0, cells := 0, slots := 0, locals := 0 } : Room) (va_Pc [.ref h0, .int (nI sn), .int (zI kz)] (mPre D cI cJ cZ [(h0, .inr (4, [.ref s1, .ref s2, .int (nI sm)])), (s1, .inl (cJ, 600, .inr (.inl EC))), (s2, .inl (cI, 30, .inl (nA RU)))] sz)) (Qi9 D (va_A [(h0, .inr (4, [.ref s1, .ref s2, .int (nI sm)])), (s1, .inl (cJ, 600, .inr (.inl EC))), (s2, .inl (cI, 30, .inl (nA RU)))] sz) [(h0, .inr (4, [.ref s1, .ref s2, .int (nI sm)])), (s1, .inl (cJ, 600, .inr (.inl EC))), (s2, .inl (cI, 30, .inl (nA RU)))] (zI (-1))) 0 0 (va_A [(h0, .inr (4, [.ref s1, .ref s2, .int (nI sm)])), (s1, .inl (cJ, 600, .inr (.inl EC))), (s2, .inl (cI, 30, .inl (nA RU)))] sz) := by
  refine Met.ofW (cc := cX4_slotOf) (maxL := 3) (ret := (some .int)) (by decide) rfl ?_
  intro p e s m args below meth c s₁ B hml hv
  obtain ⟨hargs, hsz, hP, hT, hD0⟩ := hv
  have hx := B.exec
  have hb := B.bytes
  have hr := B.returns
  have hts := atoms_spec (ws := wsX4_slotOf) B.pre
  have hown : s.vm.findClass RX4 = some m.cls := findClass_of_methodNamed B.named
  have hlocks := B.notSynchronized
  subst hsz
  have hK := hT.1
  have hD := hD0.self (sz := s.heap.size)
  generalize hAe : va_A [(h0, .inr (4, [.ref s1, .ref s2, .int (nI sm)])), (s1, .inl (cJ, 600, .inr (.inl EC))), (s2, .inl (cI, 30, .inl (nA RU)))] s.heap.size = A at hD ⊢
  have hA : ∀ q : Nat, s.heap.size ≤ q → A q := fun q h => by rw [← hAe]; exact Or.inr h
  have hS : va_S A s.heap s.heap [] := va_S.rf
  obtain ⟨H, hHe⟩ : ∃ H : Heap, H = s.heap := ⟨_, rfl⟩
  have hS : va_S A s.heap H [] := by rw [hHe]; exact va_S.rf
  rw [← hHe] at hP
  suffices K0 : W p l e (headSpec wsX4_slotOf ({ frames := 0, cells := 0, slots := 0, locals := 0 } : Room)).room s m args below meth c H [] 0 0 (MQ below (Qi9 D A [(h0, .inr (4, [.ref s1, .ref s2, .int (nI sm)])), (s1, .inl (cJ, 600, .inr (.inl EC))), (s2, .inl (cI, 30, .inl (nA RU)))] (zI (-1))) args s 0 0 A) (entryFrame m args 3) by rw [hHe] at K0; exact K0
  refine W.eq (g2 := entryFrame m ([.ref h0, .int (nI sn), .int (zI kz)] : List Value).toArray 3) (by rw [hargs]) ?_
  have hl := lv_entry ([.ref h0, .int (nI sn), .int (zI kz)]) (n := 3) (Nat.le_of_ble_eq_true rfl)
  rw [lg_entry_eq]
  generalize (lg_sl ([.ref h0, .int (nI sn), .int (zI kz)]) ++ List.replicate (3 - (lg_sl ([.ref h0, .int (nI sn), .int (zI kz)])).length) Slot.unset).toArray = ls at hl ⊢
  have hl : lv_has ls 3 [(0, .ref h0), (1, .int (nI sn)), (2, .int (zI kz))] := hl
  generalize ([] : List Loc) = locs at hS ⊢
  have hinX4 : ∀ w ∈ wsX40, w ∈ wsX4_slotOf := by decide +kernel
  have hf19 := hts (.fieldLink RX4 19 "Brightband$Scans" "made" "I") (by decide +kernel)
  refine lv_iload_n hx hb dX4_slotOf_0 rfl (lv_at hl 1 rfl) ?_
  refine c0_lt (tgt := 28) hx hb dX4_slotOf_1 (by decide) (nT (by omega)) (fun c_1 => by omega) (fun c_1 => ?_)
  refine lv_iload_n hx hb dX4_slotOf_4 rfl (lv_at hl 1 rfl) ?_
  refine lv_aload_n hx hb dX4_slotOf_5 rfl (lv_at hl 0 rfl) ?_
  refine va_get (D := D) (ci := 4) (v := .int (nI sm)) (C := RX4) (T := TX4) (N := 3) hx hb hts hinX4 hown hK hP 0 rfl rfl 2 (by decide) hf19 (fun _ h9 => h9) rfl dX4_slotOf_6 ?_
  refine ci_ge (tgt := 28) hx hb dX4_slotOf_9 (by decide) (nT (by omega)) (nT (by omega)) (fun c_9 => by omega) (fun c_9 => ?_)
  refine lv_iload_n hx hb dX4_slotOf_12 rfl (lv_at hl 1 rfl) ?_
  refine lv_bipush (v := nI 30) hx hb dX4_slotOf_13 (by decide) ?_
  refine ci_ge (tgt := 28) hx hb dX4_slotOf_15 (by decide) (nT (by omega)) (nT (by omega)) (fun c_15 => by omega) (fun c_15 => ?_)
  refine lv_iload_n hx hb dX4_slotOf_18 rfl (lv_at hl 2 rfl) ?_
  refine c0_lt (tgt := 28) hx hb dX4_slotOf_19 (by decide) (zT (by omega) (by omega)) (fun c_19 => ?_) (fun c_19 => ?_)
  · refine lv_iconst (v := zI (-1)) hx hb dX4_slotOf_28 (by decide) ?_
    exact fin_i hx hb hr hlocks hP hD hS (rfl) dX4_slotOf_29
  · refine lv_iload_n hx hb dX4_slotOf_22 rfl (lv_at hl 2 rfl) ?_
    refine lv_bipush (v := nI 20) hx hb dX4_slotOf_23 (by decide) ?_
    refine ci_lt (tgt := 30) hx hb dX4_slotOf_25 (by decide) (zT (by omega) (by omega)) (nT (by omega)) (fun c_25 => by omega) (fun c_25 => ?_)
    refine lv_iconst (v := zI (-1)) hx hb dX4_slotOf_28 (by decide) ?_
    exact fin_i hx hb hr hlocks hP hD hS (rfl) dX4_slotOf_29
set_option maxHeartbeats 4000000 in
set_option maxRecDepth 100000 in
theorem c_X4_setLatest (l : Launch) (D : va_G) (cI cJ cZ : ClassId) (h0 : Nat) (s1 : Nat) (s2 : Nat) (EC : Nat → Int64) (RU : Nat → Nat) (sm : Nat) (ki : Nat) (ec : Int64) (hs1 : 1 ≤ sm) (hsm : sm ≤ 30) (hki : ki < 20) (sz : Nat) : Met l yX4_setLatest wsX4_setLatest ({ frames := 1, cells := 0, slots := 0, locals := 22 } : Room) (va_Pc [.ref h0, .int (nI ki), .long ec] (mPre D cI cJ cZ [(h0, .inr (4, [.ref s1, .ref s2, .int (nI sm)])), (s1, .inl (cJ, 600, .inr (.inl EC))), (s2, .inl (cI, 30, .inl (nA RU)))] sz)) (Qv9 D (va_A [(h0, .inr (4, [.ref s1, .ref s2, .int (nI sm)])), (s1, .inl (cJ, 600, .inr (.inl EC))), (s2, .inl (cI, 30, .inl (nA RU)))] sz) [(h0, .inr (4, [.ref s1, .ref s2, .int (nI sm)])), (s1, .inl (cJ, 600, .inr (.inl (uN EC (20 * (sm - 1) + ki) ec)))), (s2, .inl (cI, 30, .inl (nA RU)))]) 0 0 (va_A [(h0, .inr (4, [.ref s1, .ref s2, .int (nI sm)])), (s1, .inl (cJ, 600, .inr (.inl EC))), (s2, .inl (cI, 30, .inl (nA RU)))] sz) := by
  refine Met.ofW (cc := cX4_setLatest) (maxL := 5) (ret := none) (by decide) rfl ?_
  intro p e s m args below meth c s₁ B hml hv
  obtain ⟨hargs, hsz, hP, hT, hD0⟩ := hv
  have hx := B.exec
  have hb := B.bytes
  have hr := B.returns
  have hts := atoms_spec (ws := wsX4_setLatest) B.pre
  have hown : s.vm.findClass RX4 = some m.cls := findClass_of_methodNamed B.named
  have hlocks := B.notSynchronized
  subst hsz
  have hK := hT.1
  have hD := hD0.self (sz := s.heap.size)
  generalize hAe : va_A [(h0, .inr (4, [.ref s1, .ref s2, .int (nI sm)])), (s1, .inl (cJ, 600, .inr (.inl EC))), (s2, .inl (cI, 30, .inl (nA RU)))] s.heap.size = A at hD ⊢
  have hA : ∀ q : Nat, s.heap.size ≤ q → A q := fun q h => by rw [← hAe]; exact Or.inr h
  have hS : va_S A s.heap s.heap [] := va_S.rf
  obtain ⟨H, hHe⟩ : ∃ H : Heap, H = s.heap := ⟨_, rfl⟩
  have hS : va_S A s.heap H [] := by rw [hHe]; exact va_S.rf
  rw [← hHe] at hP
  suffices K0 : W p l e (headSpec wsX4_setLatest ({ frames := 1, cells := 0, slots := 0, locals := 22 } : Room)).room s m args below meth c H [] 0 0 (MQ below (Qv9 D A [(h0, .inr (4, [.ref s1, .ref s2, .int (nI sm)])), (s1, .inl (cJ, 600, .inr (.inl (uN EC (20 * (sm - 1) + ki) ec)))), (s2, .inl (cI, 30, .inl (nA RU)))]) args s 0 0 A) (entryFrame m args 5) by rw [hHe] at K0; exact K0
  refine W.eq (g2 := entryFrame m ([.ref h0, .int (nI ki), .long ec] : List Value).toArray 5) (by rw [hargs]) ?_
  have hl := lv_entry ([.ref h0, .int (nI ki), .long ec]) (n := 5) (Nat.le_of_ble_eq_true rfl)
  rw [lg_entry_eq]
  generalize (lg_sl ([.ref h0, .int (nI ki), .long ec]) ++ List.replicate (5 - (lg_sl ([.ref h0, .int (nI ki), .long ec])).length) Slot.unset).toArray = ls at hl ⊢
  have hl : lv_has ls 5 [(0, .ref h0), (1, .int (nI ki)), (2, .long ec)] := hl
  generalize ([] : List Loc) = locs at hS ⊢
  have hinX4 : ∀ w ∈ wsX40, w ∈ wsX4_setLatest := by decide +kernel
  have hf19 := hts (.fieldLink RX4 19 "Brightband$Scans" "made" "I") (by decide +kernel)
  have hf9 := hts (.fieldLink RX4 9 "Brightband$Scans" "echoes" "[J") (by decide +kernel)
  refine lv_aload_n hx hb dX4_setLatest_0 rfl (lv_at hl 0 rfl) ?_
  refine lv_aload_n hx hb dX4_setLatest_1 rfl (lv_at hl 0 rfl) ?_
  refine va_get (D := D) (ci := 4) (v := .int (nI sm)) (C := RX4) (T := TX4) (N := 3) hx hb hts hinX4 hown hK hP 0 rfl rfl 2 (by decide) hf19 (fun _ h9 => h9) rfl dX4_setLatest_2 ?_
  refine lv_iconst (v := nI 1) hx hb dX4_setLatest_5 (by decide) ?_
  refine lv_isub hx hb dX4_setLatest_6 ?_
  refine tp_i (pk_sub (by omega)) ?_
  refine lv_iload_n hx hb dX4_setLatest_7 rfl (lv_at hl 1 rfl) ?_
  refine cr_i (wc := [(h0, .inr (4, [.ref s1, .ref s2, .int (nI sm)])), (s1, .inl (cJ, 600, .inr (.inl EC))), (s2, .inl (cI, 30, .inl (nA RU)))]) (w1 := [(h0, .inr (4, [.ref s1, .ref s2, .int (nI sm)])), (s1, .inl (cJ, 600, .inr (.inl EC))), (s2, .inl (cI, 30, .inl (nA RU)))]) (ws2 := [(h0, .inr (4, [.ref s1, .ref s2, .int (nI sm)])), (s1, .inl (cJ, 600, .inr (.inl EC))), (s2, .inl (cI, 30, .inl (nA RU)))]) hP hD hS hA [0, 1, 2] rfl rfl rfl (va_runV (As := [.int (nI (sm - 1)), .int (nI ki)]) (rest := []) ⟨hx, hb, hml, hown, hts⟩ (c_X4_slotOf_in l D cI cJ cZ h0 s1 s2 EC RU sm (sm - 1) ki (by omega) (by omega) (by omega) H.size) (cwV 2 hts gX4_setLatest_X4_slotOf rfl rfl rfl (by decide +kernel) ⟨Nat.le_of_ble_eq_true rfl, Nat.le_of_ble_eq_true rfl⟩) (pvV hT hP hD [0, 1, 2] rfl rfl 0 rfl rfl) rfl rfl hl.1 rfl (lv_room (Nat.le_of_ble_eq_true rfl)) dX4_setLatest_8 ⟨Nat.zero_le _, Nat.zero_le _⟩) (fun H locs hP hD hS => ?_)
  refine lv_istore (lv' := [(4, .int (nI (20 * (sm - 1) + ki))), (0, .ref h0), (1, .int (nI ki)), (2, .long ec)]) hx hb dX4_setLatest_11 hl (by decide) rfl (fun ls hl => ?_)
  refine lv_iload hx hb dX4_setLatest_13 (lv_at hl 0 rfl) ?_
  refine lv_iconst (v := zI (-1)) hx hb dX4_setLatest_15 (by decide) ?_
  refine ci_eq (tgt := 27) hx hb dX4_setLatest_16 (by decide) (nT (by omega)) (zT (by omega) (by omega)) (fun c_16 => by omega) (fun c_16 => ?_)
  refine lv_aload_n hx hb dX4_setLatest_19 rfl (lv_at hl 1 rfl) ?_
  refine va_get (D := D) (ci := 4) (v := .ref s1) (C := RX4) (T := TX4) (N := 3) hx hb hts hinX4 hown hK hP 0 rfl rfl 0 (by decide) hf9 (fun _ h9 => h9) rfl dX4_setLatest_20 ?_
  refine lv_iload hx hb dX4_setLatest_23 (lv_at hl 0 rfl) ?_
  refine lv_lload_n hx hb dX4_setLatest_25 rfl (lv_at hl 3 rfl) ?_
  refine ast_L (x := ec) hx hb hK hP hD hS 1 1 rfl rfl (20 * (sm - 1) + ki) rfl (by omega) (Nat.le_of_ble_eq_true rfl) dX4_setLatest_26 (fun H locs hP hD hS => ?_)
  have hP : va_P D vwCl [(h0, .inr (4, [.ref s1, .ref s2, .int (nI sm)])), (s1, .inl (cJ, 600, .inr (.inl (uN EC (20 * (sm - 1) + ki) ec)))), (s2, .inl (cI, 30, .inl (nA RU)))] H := hP
  have hD : va_D A [(h0, .inr (4, [.ref s1, .ref s2, .int (nI sm)])), (s1, .inl (cJ, 600, .inr (.inl (uN EC (20 * (sm - 1) + ki) ec)))), (s2, .inl (cI, 30, .inl (nA RU)))] := hD
  exact fin_v hx hb hr hlocks hP hD hS dX4_setLatest_27
set_option maxHeartbeats 4000000 in
set_option maxRecDepth 100000 in
theorem c_X4_echoAt_in (l : Launch) (D : va_G) (cI cJ cZ : ClassId) (h0 : Nat) (s1 : Nat) (s2 : Nat) (EC : Nat → Int64) (RU : Nat → Nat) (sm : Nat) (sn : Nat) (ki : Nat) (hsn : sn < sm) (hsm : sm ≤ 30) (hki : ki < 20) (sz : Nat) : Met l yX4_echoAt wsX4_echoAt ({ frames := 1, cells := 0, slots := 0, locals := 22 } : Room) (va_Pc [.ref h0, .int (nI sn), .int (nI ki)] (mPre D cI cJ cZ [(h0, .inr (4, [.ref s1, .ref s2, .int (nI sm)])), (s1, .inl (cJ, 600, .inr (.inl EC))), (s2, .inl (cI, 30, .inl (nA RU)))] sz)) (Ql9 D (va_A [(h0, .inr (4, [.ref s1, .ref s2, .int (nI sm)])), (s1, .inl (cJ, 600, .inr (.inl EC))), (s2, .inl (cI, 30, .inl (nA RU)))] sz) [(h0, .inr (4, [.ref s1, .ref s2, .int (nI sm)])), (s1, .inl (cJ, 600, .inr (.inl EC))), (s2, .inl (cI, 30, .inl (nA RU)))] (EC (20 * sn + ki))) 0 0 (va_A [(h0, .inr (4, [.ref s1, .ref s2, .int (nI sm)])), (s1, .inl (cJ, 600, .inr (.inl EC))), (s2, .inl (cI, 30, .inl (nA RU)))] sz) := by
  refine Met.ofW (cc := cX4_echoAt) (maxL := 4) (ret := (some .long)) (by decide) rfl ?_
  intro p e s m args below meth c s₁ B hml hv
  obtain ⟨hargs, hsz, hP, hT, hD0⟩ := hv
  have hx := B.exec
  have hb := B.bytes
  have hr := B.returns
  have hts := atoms_spec (ws := wsX4_echoAt) B.pre
  have hown : s.vm.findClass RX4 = some m.cls := findClass_of_methodNamed B.named
  have hlocks := B.notSynchronized
  subst hsz
  have hK := hT.1
  have hD := hD0.self (sz := s.heap.size)
  generalize hAe : va_A [(h0, .inr (4, [.ref s1, .ref s2, .int (nI sm)])), (s1, .inl (cJ, 600, .inr (.inl EC))), (s2, .inl (cI, 30, .inl (nA RU)))] s.heap.size = A at hD ⊢
  have hA : ∀ q : Nat, s.heap.size ≤ q → A q := fun q h => by rw [← hAe]; exact Or.inr h
  have hS : va_S A s.heap s.heap [] := va_S.rf
  obtain ⟨H, hHe⟩ : ∃ H : Heap, H = s.heap := ⟨_, rfl⟩
  have hS : va_S A s.heap H [] := by rw [hHe]; exact va_S.rf
  rw [← hHe] at hP
  suffices K0 : W p l e (headSpec wsX4_echoAt ({ frames := 1, cells := 0, slots := 0, locals := 22 } : Room)).room s m args below meth c H [] 0 0 (MQ below (Ql9 D A [(h0, .inr (4, [.ref s1, .ref s2, .int (nI sm)])), (s1, .inl (cJ, 600, .inr (.inl EC))), (s2, .inl (cI, 30, .inl (nA RU)))] (EC (20 * sn + ki))) args s 0 0 A) (entryFrame m args 4) by rw [hHe] at K0; exact K0
  refine W.eq (g2 := entryFrame m ([.ref h0, .int (nI sn), .int (nI ki)] : List Value).toArray 4) (by rw [hargs]) ?_
  have hl := lv_entry ([.ref h0, .int (nI sn), .int (nI ki)]) (n := 4) (Nat.le_of_ble_eq_true rfl)
  rw [lg_entry_eq]
  generalize (lg_sl ([.ref h0, .int (nI sn), .int (nI ki)]) ++ List.replicate (4 - (lg_sl ([.ref h0, .int (nI sn), .int (nI ki)])).length) Slot.unset).toArray = ls at hl ⊢
  have hl : lv_has ls 4 [(0, .ref h0), (1, .int (nI sn)), (2, .int (nI ki))] := hl
  generalize ([] : List Loc) = locs at hS ⊢
  have hinX4 : ∀ w ∈ wsX40, w ∈ wsX4_echoAt := by decide +kernel
  have hf9 := hts (.fieldLink RX4 9 "Brightband$Scans" "echoes" "[J") (by decide +kernel)
  refine lv_aload_n hx hb dX4_echoAt_0 rfl (lv_at hl 0 rfl) ?_
  refine lv_iload_n hx hb dX4_echoAt_1 rfl (lv_at hl 1 rfl) ?_
  refine lv_iload_n hx hb dX4_echoAt_2 rfl (lv_at hl 2 rfl) ?_
  refine cr_i (wc := [(h0, .inr (4, [.ref s1, .ref s2, .int (nI sm)])), (s1, .inl (cJ, 600, .inr (.inl EC))), (s2, .inl (cI, 30, .inl (nA RU)))]) (w1 := [(h0, .inr (4, [.ref s1, .ref s2, .int (nI sm)])), (s1, .inl (cJ, 600, .inr (.inl EC))), (s2, .inl (cI, 30, .inl (nA RU)))]) (ws2 := [(h0, .inr (4, [.ref s1, .ref s2, .int (nI sm)])), (s1, .inl (cJ, 600, .inr (.inl EC))), (s2, .inl (cI, 30, .inl (nA RU)))]) hP hD hS hA [0, 1, 2] rfl rfl rfl (va_runV (As := [.int (nI sn), .int (nI ki)]) (rest := []) ⟨hx, hb, hml, hown, hts⟩ (c_X4_slotOf_in l D cI cJ cZ h0 s1 s2 EC RU sm sn ki (by omega) (by omega) (by omega) H.size) (cwV 2 hts gX4_echoAt_X4_slotOf rfl rfl rfl (by decide +kernel) ⟨Nat.le_of_ble_eq_true rfl, Nat.le_of_ble_eq_true rfl⟩) (pvV hT hP hD [0, 1, 2] rfl rfl 0 rfl rfl) rfl rfl hl.1 rfl (lv_room (Nat.le_of_ble_eq_true rfl)) dX4_echoAt_3 ⟨Nat.zero_le _, Nat.zero_le _⟩) (fun H locs hP hD hS => ?_)
  refine lv_istore_n (lv' := [(3, .int (nI (20 * sn + ki))), (0, .ref h0), (1, .int (nI sn)), (2, .int (nI ki))]) hx hb dX4_echoAt_6 rfl hl (by decide) rfl (fun ls hl => ?_)
  refine lv_iload_n hx hb dX4_echoAt_7 rfl (lv_at hl 0 rfl) ?_
  refine lv_iconst (v := zI (-1)) hx hb dX4_echoAt_8 (by decide) ?_
  refine ci_ne (tgt := 16) hx hb dX4_echoAt_9 (by decide) (nT (by omega)) (zT (by omega) (by omega)) (fun c_9 => ?_) (fun c_9 => by omega)
  refine lv_aload_n hx hb dX4_echoAt_16 rfl (lv_at hl 1 rfl) ?_
  refine va_get (D := D) (ci := 4) (v := .ref s1) (C := RX4) (T := TX4) (N := 3) hx hb hts hinX4 hown hK hP 0 rfl rfl 0 (by decide) hf9 (fun _ h9 => h9) rfl dX4_echoAt_17 ?_
  refine lv_iload_n hx hb dX4_echoAt_20 rfl (lv_at hl 0 rfl) ?_
  refine ald_L hx hb hK hP 1 1 rfl rfl (20 * sn + ki) rfl (by omega) (Nat.le_of_ble_eq_true rfl) dX4_echoAt_21 ?_
  exact fin_l hx hb hr hlocks hP hD hS (rfl) dX4_echoAt_22
set_option maxHeartbeats 4000000 in
set_option maxRecDepth 100000 in
theorem c_X4_echoAt_out (l : Launch) (D : va_G) (cI cJ cZ : ClassId) (h0 : Nat) (s1 : Nat) (s2 : Nat) (EC : Nat → Int64) (RU : Nat → Nat) (sm : Nat) (sn : Nat) (kz : Int) (hsn : sn < sm) (hsm : sm ≤ 30) (hkz : kz < 0 ∨ 20 ≤ kz) (hk1 : -100 < kz) (hk2 : kz < 100) (sz : Nat) : Met l yX4_echoAt wsX4_echoAt ({ frames := 1, cells := 0, slots := 0, locals := 22 } : Room) (va_Pc [.ref h0, .int (nI sn), .int (zI kz)] (mPre D cI cJ cZ [(h0, .inr (4, [.ref s1, .ref s2, .int (nI sm)])), (s1, .inl (cJ, 600, .inr (.inl EC))), (s2, .inl (cI, 30, .inl (nA RU)))] sz)) (Ql9 D (va_A [(h0, .inr (4, [.ref s1, .ref s2, .int (nI sm)])), (s1, .inl (cJ, 600, .inr (.inl EC))), (s2, .inl (cI, 30, .inl (nA RU)))] sz) [(h0, .inr (4, [.ref s1, .ref s2, .int (nI sm)])), (s1, .inl (cJ, 600, .inr (.inl EC))), (s2, .inl (cI, 30, .inl (nA RU)))] (0)) 0 0 (va_A [(h0, .inr (4, [.ref s1, .ref s2, .int (nI sm)])), (s1, .inl (cJ, 600, .inr (.inl EC))), (s2, .inl (cI, 30, .inl (nA RU)))] sz) := by
  refine Met.ofW (cc := cX4_echoAt) (maxL := 4) (ret := (some .long)) (by decide) rfl ?_
  intro p e s m args below meth c s₁ B hml hv
  obtain ⟨hargs, hsz, hP, hT, hD0⟩ := hv
  have hx := B.exec
  have hb := B.bytes
  have hr := B.returns
  have hts := atoms_spec (ws := wsX4_echoAt) B.pre
  have hown : s.vm.findClass RX4 = some m.cls := findClass_of_methodNamed B.named
  have hlocks := B.notSynchronized
  subst hsz
  have hK := hT.1
  have hD := hD0.self (sz := s.heap.size)
  generalize hAe : va_A [(h0, .inr (4, [.ref s1, .ref s2, .int (nI sm)])), (s1, .inl (cJ, 600, .inr (.inl EC))), (s2, .inl (cI, 30, .inl (nA RU)))] s.heap.size = A at hD ⊢
  have hA : ∀ q : Nat, s.heap.size ≤ q → A q := fun q h => by rw [← hAe]; exact Or.inr h
  have hS : va_S A s.heap s.heap [] := va_S.rf
  obtain ⟨H, hHe⟩ : ∃ H : Heap, H = s.heap := ⟨_, rfl⟩
  have hS : va_S A s.heap H [] := by rw [hHe]; exact va_S.rf
  rw [← hHe] at hP
  suffices K0 : W p l e (headSpec wsX4_echoAt ({ frames := 1, cells := 0, slots := 0, locals := 22 } : Room)).room s m args below meth c H [] 0 0 (MQ below (Ql9 D A [(h0, .inr (4, [.ref s1, .ref s2, .int (nI sm)])), (s1, .inl (cJ, 600, .inr (.inl EC))), (s2, .inl (cI, 30, .inl (nA RU)))] (0)) args s 0 0 A) (entryFrame m args 4) by rw [hHe] at K0; exact K0
  refine W.eq (g2 := entryFrame m ([.ref h0, .int (nI sn), .int (zI kz)] : List Value).toArray 4) (by rw [hargs]) ?_
  have hl := lv_entry ([.ref h0, .int (nI sn), .int (zI kz)]) (n := 4) (Nat.le_of_ble_eq_true rfl)
  rw [lg_entry_eq]
  generalize (lg_sl ([.ref h0, .int (nI sn), .int (zI kz)]) ++ List.replicate (4 - (lg_sl ([.ref h0, .int (nI sn), .int (zI kz)])).length) Slot.unset).toArray = ls at hl ⊢
  have hl : lv_has ls 4 [(0, .ref h0), (1, .int (nI sn)), (2, .int (zI kz))] := hl
  generalize ([] : List Loc) = locs at hS ⊢
  refine lv_aload_n hx hb dX4_echoAt_0 rfl (lv_at hl 0 rfl) ?_
  refine lv_iload_n hx hb dX4_echoAt_1 rfl (lv_at hl 1 rfl) ?_
  refine lv_iload_n hx hb dX4_echoAt_2 rfl (lv_at hl 2 rfl) ?_
  refine cr_i (wc := [(h0, .inr (4, [.ref s1, .ref s2, .int (nI sm)])), (s1, .inl (cJ, 600, .inr (.inl EC))), (s2, .inl (cI, 30, .inl (nA RU)))]) (w1 := [(h0, .inr (4, [.ref s1, .ref s2, .int (nI sm)])), (s1, .inl (cJ, 600, .inr (.inl EC))), (s2, .inl (cI, 30, .inl (nA RU)))]) (ws2 := [(h0, .inr (4, [.ref s1, .ref s2, .int (nI sm)])), (s1, .inl (cJ, 600, .inr (.inl EC))), (s2, .inl (cI, 30, .inl (nA RU)))]) hP hD hS hA [0, 1, 2] rfl rfl rfl (va_runV (As := [.int (nI sn), .int (zI kz)]) (rest := []) ⟨hx, hb, hml, hown, hts⟩ (c_X4_slotOf_out l D cI cJ cZ h0 s1 s2 EC RU sm sn kz (by omega) (by omega) (by omega) (by omega) (by omega) H.size) (cwV 2 hts gX4_echoAt_X4_slotOf rfl rfl rfl (by decide +kernel) ⟨Nat.le_of_ble_eq_true rfl, Nat.le_of_ble_eq_true rfl⟩) (pvV hT hP hD [0, 1, 2] rfl rfl 0 rfl rfl) rfl rfl hl.1 rfl (lv_room (Nat.le_of_ble_eq_true rfl)) dX4_echoAt_3 ⟨Nat.zero_le _, Nat.zero_le _⟩) (fun H locs hP hD hS => ?_)
  refine lv_istore_n (lv' := [(3, .int (zI (-1))), (0, .ref h0), (1, .int (nI sn)), (2, .int (zI kz))]) hx hb dX4_echoAt_6 rfl hl (by decide) rfl (fun ls hl => ?_)
  refine lv_iload_n hx hb dX4_echoAt_7 rfl (lv_at hl 0 rfl) ?_
  refine lv_iconst (v := zI (-1)) hx hb dX4_echoAt_8 (by decide) ?_
  refine ci_ne (tgt := 16) hx hb dX4_echoAt_9 (by decide) (zT (by omega) (by omega)) (zT (by omega) (by omega)) (fun c_9 => by omega) (fun c_9 => ?_)
  refine lv_lconst (v := 0) hx hb dX4_echoAt_12 (by decide) ?_
  refine lv_goto (tgt := 22) hx hb dX4_echoAt_13 (by decide) ?_
  exact fin_l hx hb hr hlocks hP hD hS (rfl) dX4_echoAt_22
set_option maxHeartbeats 4000000 in
set_option maxRecDepth 100000 in
theorem c_X4_ruleAt (l : Launch) (D : va_G) (cI cJ cZ : ClassId) (h0 : Nat) (s1 : Nat) (s2 : Nat) (EC : Nat → Int64) (RU : Nat → Nat) (sm : Nat) (sn : Nat) (hsn : sn < sm) (hsm : sm ≤ 30) (sz : Nat) : Met l yX4_ruleAt wsX4_ruleAt ({ frames := 0, cells := 0, slots := 0, locals := 0 } : Room) (va_Pc [.ref h0, .int (nI sn)] (mPre D cI cJ cZ [(h0, .inr (4, [.ref s1, .ref s2, .int (nI sm)])), (s1, .inl (cJ, 600, .inr (.inl EC))), (s2, .inl (cI, 30, .inl (nA RU)))] sz)) (Qi9 D (va_A [(h0, .inr (4, [.ref s1, .ref s2, .int (nI sm)])), (s1, .inl (cJ, 600, .inr (.inl EC))), (s2, .inl (cI, 30, .inl (nA RU)))] sz) [(h0, .inr (4, [.ref s1, .ref s2, .int (nI sm)])), (s1, .inl (cJ, 600, .inr (.inl EC))), (s2, .inl (cI, 30, .inl (nA RU)))] (nI (RU sn))) 0 0 (va_A [(h0, .inr (4, [.ref s1, .ref s2, .int (nI sm)])), (s1, .inl (cJ, 600, .inr (.inl EC))), (s2, .inl (cI, 30, .inl (nA RU)))] sz) := by
  refine Met.ofW (cc := cX4_ruleAt) (maxL := 2) (ret := (some .int)) (by decide) rfl ?_
  intro p e s m args below meth c s₁ B hml hv
  obtain ⟨hargs, hsz, hP, hT, hD0⟩ := hv
  have hx := B.exec
  have hb := B.bytes
  have hr := B.returns
  have hts := atoms_spec (ws := wsX4_ruleAt) B.pre
  have hown : s.vm.findClass RX4 = some m.cls := findClass_of_methodNamed B.named
  have hlocks := B.notSynchronized
  subst hsz
  have hK := hT.1
  have hD := hD0.self (sz := s.heap.size)
  generalize hAe : va_A [(h0, .inr (4, [.ref s1, .ref s2, .int (nI sm)])), (s1, .inl (cJ, 600, .inr (.inl EC))), (s2, .inl (cI, 30, .inl (nA RU)))] s.heap.size = A at hD ⊢
  have hA : ∀ q : Nat, s.heap.size ≤ q → A q := fun q h => by rw [← hAe]; exact Or.inr h
  have hS : va_S A s.heap s.heap [] := va_S.rf
  obtain ⟨H, hHe⟩ : ∃ H : Heap, H = s.heap := ⟨_, rfl⟩
  have hS : va_S A s.heap H [] := by rw [hHe]; exact va_S.rf
  rw [← hHe] at hP
  suffices K0 : W p l e (headSpec wsX4_ruleAt ({ frames := 0, cells := 0, slots := 0, locals := 0 } : Room)).room s m args below meth c H [] 0 0 (MQ below (Qi9 D A [(h0, .inr (4, [.ref s1, .ref s2, .int (nI sm)])), (s1, .inl (cJ, 600, .inr (.inl EC))), (s2, .inl (cI, 30, .inl (nA RU)))] (nI (RU sn))) args s 0 0 A) (entryFrame m args 2) by rw [hHe] at K0; exact K0
  refine W.eq (g2 := entryFrame m ([.ref h0, .int (nI sn)] : List Value).toArray 2) (by rw [hargs]) ?_
  have hl := lv_entry ([.ref h0, .int (nI sn)]) (n := 2) (Nat.le_of_ble_eq_true rfl)
  rw [lg_entry_eq]
  generalize (lg_sl ([.ref h0, .int (nI sn)]) ++ List.replicate (2 - (lg_sl ([.ref h0, .int (nI sn)])).length) Slot.unset).toArray = ls at hl ⊢
  have hl : lv_has ls 2 [(0, .ref h0), (1, .int (nI sn))] := hl
  generalize ([] : List Loc) = locs at hS ⊢
  have hinX4 : ∀ w ∈ wsX40, w ∈ wsX4_ruleAt := by decide +kernel
  have hf19 := hts (.fieldLink RX4 19 "Brightband$Scans" "made" "I") (by decide +kernel)
  have hf15 := hts (.fieldLink RX4 15 "Brightband$Scans" "rules" "[I") (by decide +kernel)
  refine lv_iload_n hx hb dX4_ruleAt_0 rfl (lv_at hl 1 rfl) ?_
  refine c0_lt (tgt := 27) hx hb dX4_ruleAt_1 (by decide) (nT (by omega)) (fun c_1 => by omega) (fun c_1 => ?_)
  refine lv_iload_n hx hb dX4_ruleAt_4 rfl (lv_at hl 1 rfl) ?_
  refine lv_aload_n hx hb dX4_ruleAt_5 rfl (lv_at hl 0 rfl) ?_
  refine va_get (D := D) (ci := 4) (v := .int (nI sm)) (C := RX4) (T := TX4) (N := 3) hx hb hts hinX4 hown hK hP 0 rfl rfl 2 (by decide) hf19 (fun _ h9 => h9) rfl dX4_ruleAt_6 ?_
  refine ci_ge (tgt := 27) hx hb dX4_ruleAt_9 (by decide) (nT (by omega)) (nT (by omega)) (fun c_9 => by omega) (fun c_9 => ?_)
  refine lv_iload_n hx hb dX4_ruleAt_12 rfl (lv_at hl 1 rfl) ?_
  refine lv_bipush (v := nI 30) hx hb dX4_ruleAt_13 (by decide) ?_
  refine ci_ge (tgt := 27) hx hb dX4_ruleAt_15 (by decide) (nT (by omega)) (nT (by omega)) (fun c_15 => by omega) (fun c_15 => ?_)
  refine lv_aload_n hx hb dX4_ruleAt_18 rfl (lv_at hl 0 rfl) ?_
  refine va_get (D := D) (ci := 4) (v := .ref s2) (C := RX4) (T := TX4) (N := 3) hx hb hts hinX4 hown hK hP 0 rfl rfl 1 (by decide) hf15 (fun _ h9 => h9) rfl dX4_ruleAt_19 ?_
  refine lv_iload_n hx hb dX4_ruleAt_22 rfl (lv_at hl 1 rfl) ?_
  refine ald_N hx hb hK hP 2 0 rfl rfl sn rfl (by omega) (Nat.le_of_ble_eq_true rfl) dX4_ruleAt_23 ?_
  refine lv_goto (tgt := 28) hx hb dX4_ruleAt_24 (by decide) ?_
  exact fin_i hx hb hr hlocks hP hD hS (rfl) dX4_ruleAt_28
set_option maxHeartbeats 4000000 in
set_option maxRecDepth 100000 in
theorem c_X4_differenceBy (l : Launch) (D : va_G) (cI cJ cZ : ClassId) (h0 : Nat) (s1 : Nat) (s2 : Nat) (EC : Nat → Int64) (RU : Nat → Nat) (sm : Nat) (st : Int) (hst1 : -5 < st) (hst2 : st < 5) (hs2 : 2 ≤ sm) (hsm : sm ≤ 30) (sz : Nat) : Met l yX4_differenceBy wsX4_differenceBy ({ frames := 2, cells := 0, slots := 0, locals := 45 } : Room) (va_Pc [.ref h0, .int (zI st)] (mPre D cI cJ cZ [(h0, .inr (4, [.ref s1, .ref s2, .int (nI sm)])), (s1, .inl (cJ, 600, .inr (.inl EC))), (s2, .inl (cI, 30, .inl (nA RU)))] sz)) (Ql9 D (va_A [(h0, .inr (4, [.ref s1, .ref s2, .int (nI sm)])), (s1, .inl (cJ, 600, .inr (.inl EC))), (s2, .inl (cI, 30, .inl (nA RU)))] sz) [(h0, .inr (4, [.ref s1, .ref s2, .int (nI sm)])), (s1, .inl (cJ, 600, .inr (.inl EC))), (s2, .inl (cI, 30, .inl (nA RU)))] (dfS EC sm st 20)) 0 0 (va_A [(h0, .inr (4, [.ref s1, .ref s2, .int (nI sm)])), (s1, .inl (cJ, 600, .inr (.inl EC))), (s2, .inl (cI, 30, .inl (nA RU)))] sz) := by
  refine Met.ofW (cc := cX4_differenceBy) (maxL := 9) (ret := (some .long)) (by decide) rfl ?_
  intro p e s m args below meth c s₁ B hml hv
  obtain ⟨hargs, hsz, hP, hT, hD0⟩ := hv
  have hx := B.exec
  have hb := B.bytes
  have hr := B.returns
  have hts := atoms_spec (ws := wsX4_differenceBy) B.pre
  have hown : s.vm.findClass RX4 = some m.cls := findClass_of_methodNamed B.named
  have hlocks := B.notSynchronized
  subst hsz
  have hK := hT.1
  have hD := hD0.self (sz := s.heap.size)
  generalize hAe : va_A [(h0, .inr (4, [.ref s1, .ref s2, .int (nI sm)])), (s1, .inl (cJ, 600, .inr (.inl EC))), (s2, .inl (cI, 30, .inl (nA RU)))] s.heap.size = A at hD ⊢
  have hA : ∀ q : Nat, s.heap.size ≤ q → A q := fun q h => by rw [← hAe]; exact Or.inr h
  have hS : va_S A s.heap s.heap [] := va_S.rf
  obtain ⟨H, hHe⟩ : ∃ H : Heap, H = s.heap := ⟨_, rfl⟩
  have hS : va_S A s.heap H [] := by rw [hHe]; exact va_S.rf
  rw [← hHe] at hP
  suffices K0 : W p l e (headSpec wsX4_differenceBy ({ frames := 2, cells := 0, slots := 0, locals := 45 } : Room)).room s m args below meth c H [] 0 0 (MQ below (Ql9 D A [(h0, .inr (4, [.ref s1, .ref s2, .int (nI sm)])), (s1, .inl (cJ, 600, .inr (.inl EC))), (s2, .inl (cI, 30, .inl (nA RU)))] (dfS EC sm st 20)) args s 0 0 A) (entryFrame m args 9) by rw [hHe] at K0; exact K0
  refine W.eq (g2 := entryFrame m ([.ref h0, .int (zI st)] : List Value).toArray 9) (by rw [hargs]) ?_
  have hl := lv_entry ([.ref h0, .int (zI st)]) (n := 9) (Nat.le_of_ble_eq_true rfl)
  rw [lg_entry_eq]
  generalize (lg_sl ([.ref h0, .int (zI st)]) ++ List.replicate (9 - (lg_sl ([.ref h0, .int (zI st)])).length) Slot.unset).toArray = ls at hl ⊢
  have hl : lv_has ls 9 [(0, .ref h0), (1, .int (zI st))] := hl
  generalize ([] : List Loc) = locs at hS ⊢
  have hinX4 : ∀ w ∈ wsX40, w ∈ wsX4_differenceBy := by decide +kernel
  have hf19 := hts (.fieldLink RX4 19 "Brightband$Scans" "made" "I") (by decide +kernel)
  refine lv_lconst (v := 0) hx hb dX4_differenceBy_0 (by decide) ?_
  refine lv_lstore_n (lv' := [(2, .long 0), (0, .ref h0), (1, .int (zI st))]) hx hb dX4_differenceBy_1 rfl hl (by decide) rfl (fun ls hl => ?_)
  refine lv_iconst (v := nI 0) hx hb dX4_differenceBy_2 (by decide) ?_
  refine lv_istore (lv' := [(4, .int (nI 0)), (2, .long 0), (0, .ref h0), (1, .int (zI st))]) hx hb dX4_differenceBy_3 hl (by decide) rfl (fun ls hl => ?_)
  have lp5 : ∀ (n i : Nat), i + n = 20 → ∀ (H : Heap) (locs : List Loc), va_P D vwCl [(h0, .inr (4, [.ref s1, .ref s2, .int (nI sm)])), (s1, .inl (cJ, 600, .inr (.inl EC))), (s2, .inl (cI, 30, .inl (nA RU)))] H → va_D A [(h0, .inr (4, [.ref s1, .ref s2, .int (nI sm)])), (s1, .inl (cJ, 600, .inr (.inl EC))), (s2, .inl (cI, 30, .inl (nA RU)))] → va_S A s.heap H locs → ∀ (ls : Array Slot), lv_has ls 9 [(0, .ref h0), (1, .int (zI st)), (2, .long (dfS EC sm st i)), (4, .int (nI i))] → W p l e (headSpec wsX4_differenceBy ({ frames := 2, cells := 0, slots := 0, locals := 45 } : Room)).room s m args below meth c H locs 0 0 (MQ below (Ql9 D A [(h0, .inr (4, [.ref s1, .ref s2, .int (nI sm)])), (s1, .inl (cJ, 600, .inr (.inl EC))), (s2, .inl (cI, 30, .inl (nA RU)))] (dfS EC sm st 20)) args s 0 0 A) (F0 m 5 ls []) := by
    intro n
    induction n with
    | zero =>
      intro i hcnti H locs hP hD hS ls hl
      obtain rfl : 20 = i := by omega
      refine lv_iload hx hb dX4_differenceBy_5 (lv_at hl 3 rfl) ?_
      refine lv_bipush (v := nI 20) hx hb dX4_differenceBy_7 (by decide) ?_
      refine ci_ge (tgt := 59) hx hb dX4_differenceBy_9 (by decide) (nT (by omega)) (nT (by omega)) (fun c_9 => ?_) (fun c_9 => by omega)
      refine lv_lload_n hx hb dX4_differenceBy_59 rfl (lv_at hl 2 rfl) ?_
      exact fin_l hx hb hr hlocks hP hD hS (rfl) dX4_differenceBy_60
    | succ n ih =>
      intro i hcnti H locs hP hD hS ls hl
      have hlti : i < 20 := by omega
      refine lv_iload hx hb dX4_differenceBy_5 (lv_at hl 3 rfl) ?_
      refine lv_bipush (v := nI 20) hx hb dX4_differenceBy_7 (by decide) ?_
      refine ci_ge (tgt := 59) hx hb dX4_differenceBy_9 (by decide) (nT (by omega)) (nT (by omega)) (fun c_9 => by omega) (fun c_9 => ?_)
      refine lv_aload_n hx hb dX4_differenceBy_12 rfl (lv_at hl 0 rfl) ?_
      refine lv_aload_n hx hb dX4_differenceBy_13 rfl (lv_at hl 0 rfl) ?_
      refine va_get (D := D) (ci := 4) (v := .int (nI sm)) (C := RX4) (T := TX4) (N := 3) hx hb hts hinX4 hown hK hP 0 rfl rfl 2 (by decide) hf19 (fun _ h9 => h9) rfl dX4_differenceBy_14 ?_
      refine lv_iconst (v := nI 1) hx hb dX4_differenceBy_17 (by decide) ?_
      refine lv_isub hx hb dX4_differenceBy_18 ?_
      refine tp_i (pk_sub (by omega)) ?_
      refine lv_iload hx hb dX4_differenceBy_19 (lv_at hl 3 rfl) ?_
      refine cr_l (wc := [(h0, .inr (4, [.ref s1, .ref s2, .int (nI sm)])), (s1, .inl (cJ, 600, .inr (.inl EC))), (s2, .inl (cI, 30, .inl (nA RU)))]) (w1 := [(h0, .inr (4, [.ref s1, .ref s2, .int (nI sm)])), (s1, .inl (cJ, 600, .inr (.inl EC))), (s2, .inl (cI, 30, .inl (nA RU)))]) (ws2 := [(h0, .inr (4, [.ref s1, .ref s2, .int (nI sm)])), (s1, .inl (cJ, 600, .inr (.inl EC))), (s2, .inl (cI, 30, .inl (nA RU)))]) hP hD hS hA [0, 1, 2] rfl rfl rfl (va_runV (As := [.int (nI (sm - 1)), .int (nI i)]) (rest := []) ⟨hx, hb, hml, hown, hts⟩ (c_X4_echoAt_in l D cI cJ cZ h0 s1 s2 EC RU sm (sm - 1) i (by omega) (by omega) (by omega) H.size) (cwV 2 hts gX4_differenceBy_X4_echoAt rfl rfl rfl (by decide +kernel) ⟨Nat.le_of_ble_eq_true rfl, Nat.le_of_ble_eq_true rfl⟩) (pvV hT hP hD [0, 1, 2] rfl rfl 0 rfl rfl) rfl rfl hl.1 rfl (lv_room (Nat.le_of_ble_eq_true rfl)) dX4_differenceBy_21 ⟨Nat.zero_le _, Nat.zero_le _⟩) (fun H locs hP hD hS => ?_)
      refine lv_lstore (lv' := [(5, .long (EC (20 * (sm - 1) + i))), (0, .ref h0), (1, .int (zI st)), (2, .long (dfS EC sm st i)), (4, .int (nI i))]) hx hb dX4_differenceBy_24 hl (by decide) rfl (fun ls hl => ?_)
      refine lv_aload_n hx hb dX4_differenceBy_26 rfl (lv_at hl 1 rfl) ?_
      refine lv_aload_n hx hb dX4_differenceBy_27 rfl (lv_at hl 1 rfl) ?_
      refine va_get (D := D) (ci := 4) (v := .int (nI sm)) (C := RX4) (T := TX4) (N := 3) hx hb hts hinX4 hown hK hP 0 rfl rfl 2 (by decide) hf19 (fun _ h9 => h9) rfl dX4_differenceBy_28 ?_
      refine lv_iconst (v := nI 2) hx hb dX4_differenceBy_31 (by decide) ?_
      refine lv_isub hx hb dX4_differenceBy_32 ?_
      refine tp_i (pk_sub (by omega)) ?_
      refine lv_iload hx hb dX4_differenceBy_33 (lv_at hl 4 rfl) ?_
      refine lv_iload_n hx hb dX4_differenceBy_35 rfl (lv_at hl 2 rfl) ?_
      refine lv_isub hx hb dX4_differenceBy_36 ?_
      refine tp_i (nz_sub _ _) ?_
      rcases Decidable.em (0 ≤ (i : Int) - st ∧ (i : Int) - st < 20) with hz | hz
      · refine tp_i (z_n (n := ((i : Int) - st).toNat) (by omega)) ?_
        refine cr_l (wc := [(h0, .inr (4, [.ref s1, .ref s2, .int (nI sm)])), (s1, .inl (cJ, 600, .inr (.inl EC))), (s2, .inl (cI, 30, .inl (nA RU)))]) (w1 := [(h0, .inr (4, [.ref s1, .ref s2, .int (nI sm)])), (s1, .inl (cJ, 600, .inr (.inl EC))), (s2, .inl (cI, 30, .inl (nA RU)))]) (ws2 := [(h0, .inr (4, [.ref s1, .ref s2, .int (nI sm)])), (s1, .inl (cJ, 600, .inr (.inl EC))), (s2, .inl (cI, 30, .inl (nA RU)))]) hP hD hS hA [0, 1, 2] rfl rfl rfl (va_runV (As := [.int (nI (sm - 2)), .int (nI (((i : Int) - st).toNat))]) (rest := []) ⟨hx, hb, hml, hown, hts⟩ (c_X4_echoAt_in l D cI cJ cZ h0 s1 s2 EC RU sm (sm - 2) (((i : Int) - st).toNat) (by omega) (by omega) (by omega) H.size) (cwV 2 hts gX4_differenceBy_X4_echoAt rfl rfl rfl (by decide +kernel) ⟨Nat.le_of_ble_eq_true rfl, Nat.le_of_ble_eq_true rfl⟩) (pvV hT hP hD [0, 1, 2] rfl rfl 0 rfl rfl) rfl rfl hl.1 rfl (lv_room (Nat.le_of_ble_eq_true rfl)) dX4_differenceBy_37 ⟨Nat.zero_le _, Nat.zero_le _⟩) (fun H locs hP hD hS => ?_)
        refine lv_lstore (lv' := [(7, .long (EC (20 * (sm - 2) + (((i : Int) - st).toNat)))), (5, .long (EC (20 * (sm - 1) + i))), (0, .ref h0), (1, .int (zI st)), (2, .long (dfS EC sm st i)), (4, .int (nI i))]) hx hb dX4_differenceBy_40 hl (by decide) rfl (fun ls hl => ?_)
        refine lv_lload_n hx hb dX4_differenceBy_42 rfl (lv_at hl 4 rfl) ?_
        refine lv_lload hx hb dX4_differenceBy_43 (lv_at hl 1 rfl) ?_
        refine lv_lload hx hb dX4_differenceBy_45 (lv_at hl 0 rfl) ?_
        refine lv_lsub hx hb dX4_differenceBy_47 ?_
        refine va_mabs_long hx hb (by rw [hml]; exact hl.1.symm) hown (hts (.methodLink RX4 31 Lib.MathLoose.abs_long.x) (by decide +kernel)) (hts (.static Lib.MathLoose.abs_long.x) (by decide +kernel)) (hts (.initialized "java/lang/Math") (by decide +kernel)) (hts (.code Lib.MathLoose.abs_long.x Lib.MathLoose.abs_long.code 2 (some .long)) (by decide +kernel)) (Nat.le_of_ble_eq_true rfl) (Nat.le_of_ble_eq_true rfl) (Nat.zero_le _) (Nat.zero_le _) dX4_differenceBy_48 ?_
        refine lv_ladd hx hb dX4_differenceBy_51 ?_
        refine lv_lstore_n (lv' := [(2, .long ((dfS EC sm st i) + (if 0 < ((EC (20 * (sm - 1) + i)) - (EC (20 * (sm - 2) + (((i : Int) - st).toNat)))) then ((EC (20 * (sm - 1) + i)) - (EC (20 * (sm - 2) + (((i : Int) - st).toNat)))) else -((EC (20 * (sm - 1) + i)) - (EC (20 * (sm - 2) + (((i : Int) - st).toNat))))))), (7, .long (EC (20 * (sm - 2) + (((i : Int) - st).toNat)))), (5, .long (EC (20 * (sm - 1) + i))), (0, .ref h0), (1, .int (zI st)), (4, .int (nI i))]) hx hb dX4_differenceBy_52 rfl hl (by decide) rfl (fun ls hl => ?_)
        refine lv_iinc (v := nI (i + 1)) (lv' := [(4, .int (nI (i + 1))), (2, .long ((dfS EC sm st i) + (if 0 < ((EC (20 * (sm - 1) + i)) - (EC (20 * (sm - 2) + (((i : Int) - st).toNat)))) then ((EC (20 * (sm - 1) + i)) - (EC (20 * (sm - 2) + (((i : Int) - st).toNat)))) else -((EC (20 * (sm - 1) + i)) - (EC (20 * (sm - 2) + (((i : Int) - st).toNat))))))), (7, .long (EC (20 * (sm - 2) + (((i : Int) - st).toNat)))), (5, .long (EC (20 * (sm - 1) + i))), (0, .ref h0), (1, .int (zI st))]) hx hb dX4_differenceBy_53 hl (k := 5) rfl (n_inc i) (by decide) rfl (fun ls hl => ?_)
        refine lv_goto (tgt := 5) hx hb dX4_differenceBy_56 (by decide) ?_
        have hle : ([(0, .ref h0), (1, .int (zI st)), (2, .long (dfS EC sm st (i + 1))), (4, .int (nI (i + 1)))] : List (Nat × Value)) = [(0, .ref h0), (1, .int (zI st)), (2, .long ((dfS EC sm st i) + (if 0 < ((EC (20 * (sm - 1) + i)) - (EC (20 * (sm - 2) + (((i : Int) - st).toNat)))) then ((EC (20 * (sm - 1) + i)) - (EC (20 * (sm - 2) + (((i : Int) - st).toNat)))) else -((EC (20 * (sm - 1) + i)) - (EC (20 * (sm - 2) + (((i : Int) - st).toNat))))))), (4, .int (nI (i + 1)))] := (by first | (rw [show dfS EC sm st (i + 1) = dfS EC sm st i + absL (EC (20 * (sm - 1) + i) - EC (20 * (sm - 2) + ((i : Int) - st).toNat)) from by show dfS EC sm st i + absL (EC (20 * (sm - 1) + i) - ahd EC sm ((i : Int) - st)) = _; rw [show ahd EC sm ((i : Int) - st) = EC (20 * (sm - 2) + ((i : Int) - st).toNat) from if_pos hz]]; rfl) | (rw [show dfS EC sm st (i + 1) = dfS EC sm st i + absL (EC (20 * (sm - 1) + i) - 0) from by show dfS EC sm st i + absL (EC (20 * (sm - 1) + i) - ahd EC sm ((i : Int) - st)) = _; rw [show ahd EC sm ((i : Int) - st) = 0 from if_neg hz]]; rfl))
        exact ih (i + 1) (by omega) H locs hP hD hS ls (by rw [hle]; exact lv_sub hl [4, 5, 1, 0] rfl)
      · refine cr_l (wc := [(h0, .inr (4, [.ref s1, .ref s2, .int (nI sm)])), (s1, .inl (cJ, 600, .inr (.inl EC))), (s2, .inl (cI, 30, .inl (nA RU)))]) (w1 := [(h0, .inr (4, [.ref s1, .ref s2, .int (nI sm)])), (s1, .inl (cJ, 600, .inr (.inl EC))), (s2, .inl (cI, 30, .inl (nA RU)))]) (ws2 := [(h0, .inr (4, [.ref s1, .ref s2, .int (nI sm)])), (s1, .inl (cJ, 600, .inr (.inl EC))), (s2, .inl (cI, 30, .inl (nA RU)))]) hP hD hS hA [0, 1, 2] rfl rfl rfl (va_runV (As := [.int (nI (sm - 2)), .int (zI (((i) : Int) - st))]) (rest := []) ⟨hx, hb, hml, hown, hts⟩ (c_X4_echoAt_out l D cI cJ cZ h0 s1 s2 EC RU sm (sm - 2) (((i) : Int) - st) (by omega) (by omega) (by omega) (by omega) (by omega) H.size) (cwV 2 hts gX4_differenceBy_X4_echoAt rfl rfl rfl (by decide +kernel) ⟨Nat.le_of_ble_eq_true rfl, Nat.le_of_ble_eq_true rfl⟩) (pvV hT hP hD [0, 1, 2] rfl rfl 0 rfl rfl) rfl rfl hl.1 rfl (lv_room (Nat.le_of_ble_eq_true rfl)) dX4_differenceBy_37 ⟨Nat.zero_le _, Nat.zero_le _⟩) (fun H locs hP hD hS => ?_)
        refine lv_lstore (lv' := [(7, .long 0), (5, .long (EC (20 * (sm - 1) + i))), (0, .ref h0), (1, .int (zI st)), (2, .long (dfS EC sm st i)), (4, .int (nI i))]) hx hb dX4_differenceBy_40 hl (by decide) rfl (fun ls hl => ?_)
        refine lv_lload_n hx hb dX4_differenceBy_42 rfl (lv_at hl 4 rfl) ?_
        refine lv_lload hx hb dX4_differenceBy_43 (lv_at hl 1 rfl) ?_
        refine lv_lload hx hb dX4_differenceBy_45 (lv_at hl 0 rfl) ?_
        refine lv_lsub hx hb dX4_differenceBy_47 ?_
        refine va_mabs_long hx hb (by rw [hml]; exact hl.1.symm) hown (hts (.methodLink RX4 31 Lib.MathLoose.abs_long.x) (by decide +kernel)) (hts (.static Lib.MathLoose.abs_long.x) (by decide +kernel)) (hts (.initialized "java/lang/Math") (by decide +kernel)) (hts (.code Lib.MathLoose.abs_long.x Lib.MathLoose.abs_long.code 2 (some .long)) (by decide +kernel)) (Nat.le_of_ble_eq_true rfl) (Nat.le_of_ble_eq_true rfl) (Nat.zero_le _) (Nat.zero_le _) dX4_differenceBy_48 ?_
        refine lv_ladd hx hb dX4_differenceBy_51 ?_
        refine lv_lstore_n (lv' := [(2, .long ((dfS EC sm st i) + (if 0 < ((EC (20 * (sm - 1) + i)) - 0) then ((EC (20 * (sm - 1) + i)) - 0) else -((EC (20 * (sm - 1) + i)) - 0)))), (7, .long 0), (5, .long (EC (20 * (sm - 1) + i))), (0, .ref h0), (1, .int (zI st)), (4, .int (nI i))]) hx hb dX4_differenceBy_52 rfl hl (by decide) rfl (fun ls hl => ?_)
        refine lv_iinc (v := nI (i + 1)) (lv' := [(4, .int (nI (i + 1))), (2, .long ((dfS EC sm st i) + (if 0 < ((EC (20 * (sm - 1) + i)) - 0) then ((EC (20 * (sm - 1) + i)) - 0) else -((EC (20 * (sm - 1) + i)) - 0)))), (7, .long 0), (5, .long (EC (20 * (sm - 1) + i))), (0, .ref h0), (1, .int (zI st))]) hx hb dX4_differenceBy_53 hl (k := 5) rfl (n_inc i) (by decide) rfl (fun ls hl => ?_)
        refine lv_goto (tgt := 5) hx hb dX4_differenceBy_56 (by decide) ?_
        have hle : ([(0, .ref h0), (1, .int (zI st)), (2, .long (dfS EC sm st (i + 1))), (4, .int (nI (i + 1)))] : List (Nat × Value)) = [(0, .ref h0), (1, .int (zI st)), (2, .long ((dfS EC sm st i) + (if 0 < ((EC (20 * (sm - 1) + i)) - 0) then ((EC (20 * (sm - 1) + i)) - 0) else -((EC (20 * (sm - 1) + i)) - 0)))), (4, .int (nI (i + 1)))] := (by first | (rw [show dfS EC sm st (i + 1) = dfS EC sm st i + absL (EC (20 * (sm - 1) + i) - EC (20 * (sm - 2) + ((i : Int) - st).toNat)) from by show dfS EC sm st i + absL (EC (20 * (sm - 1) + i) - ahd EC sm ((i : Int) - st)) = _; rw [show ahd EC sm ((i : Int) - st) = EC (20 * (sm - 2) + ((i : Int) - st).toNat) from if_pos hz]]; rfl) | (rw [show dfS EC sm st (i + 1) = dfS EC sm st i + absL (EC (20 * (sm - 1) + i) - 0) from by show dfS EC sm st i + absL (EC (20 * (sm - 1) + i) - ahd EC sm ((i : Int) - st)) = _; rw [show ahd EC sm ((i : Int) - st) = 0 from if_neg hz]]; rfl))
        exact ih (i + 1) (by omega) H locs hP hD hS ls (by rw [hle]; exact lv_sub hl [4, 5, 1, 0] rfl)
  have hle : ([(0, .ref h0), (1, .int (zI st)), (2, .long (dfS EC sm st 0)), (4, .int (nI 0))] : List (Nat × Value)) = [(0, .ref h0), (1, .int (zI st)), (2, .long 0), (4, .int (nI 0))] := rfl
  exact lp5 20 0 (by omega) H locs hP hD hS ls (by rw [hle]; exact lv_sub hl [2, 3, 1, 0] rfl)
