set_option maxHeartbeats 4000000 in
set_option maxRecDepth 100000 in
theorem c_X5_phaseIn (l : Launch) (D : va_G) (cI cJ cZ : ClassId) (la : Nat) (me : Nat) (hla : la < 1000) (hme : me < 1000) (sz : Nat) : Met l yX5_phaseIn wsX5_phaseIn ({ frames := 0, cells := 0, slots := 0, locals := 0 } : Room) (va_Pc [.int (nI la), .int (nI me)] (mPre D cI cJ cZ [] sz)) (Qi9 D (va_A [] sz) [] (nI (phN la me))) 0 0 (va_A [] sz) := by
  refine Met.ofW (cc := cX5_phaseIn) (maxL := 2) (ret := (some .int)) (by decide) rfl ?_
  intro p e s m args below meth c s₁ B hml hv
  obtain ⟨hargs, hsz, hP, hT, hD0⟩ := hv
  have hx := B.exec
  have hb := B.bytes
  have hr := B.returns
  have hts := atoms_spec (ws := wsX5_phaseIn) B.pre
  have hown : s.vm.findClass RX5 = some m.cls := findClass_of_methodNamed B.named
  have hlocks := B.notSynchronized
  subst hsz
  have hK := hT.1
  have hD := hD0.self (sz := s.heap.size)
  generalize hAe : va_A [] s.heap.size = A at hD ⊢
  have hA : ∀ q : Nat, s.heap.size ≤ q → A q := fun q h => by rw [← hAe]; exact Or.inr h
  have hS : va_S A s.heap s.heap [] := va_S.rf
  obtain ⟨H, hHe⟩ : ∃ H : Heap, H = s.heap := ⟨_, rfl⟩
  have hS : va_S A s.heap H [] := by rw [hHe]; exact va_S.rf
  rw [← hHe] at hP
  suffices K0 : W p l e (headSpec wsX5_phaseIn ({ frames := 0, cells := 0, slots := 0, locals := 0 } : Room)).room s m args below meth c H [] 0 0 (MQ below (Qi9 D A [] (nI (phN la me))) args s 0 0 A) (entryFrame m args 2) by rw [hHe] at K0; exact K0
  refine W.eq (g2 := entryFrame m ([.int (nI la), .int (nI me)] : List Value).toArray 2) (by rw [hargs]) ?_
  have hl := lv_entry ([.int (nI la), .int (nI me)]) (n := 2) (Nat.le_of_ble_eq_true rfl)
  rw [lg_entry_eq]
  generalize (lg_sl ([.int (nI la), .int (nI me)]) ++ List.replicate (2 - (lg_sl ([.int (nI la), .int (nI me)])).length) Slot.unset).toArray = ls at hl ⊢
  have hl : lv_has ls 2 [(0, .int (nI la)), (1, .int (nI me))] := hl
  generalize ([] : List Loc) = locs at hS ⊢
  refine lv_iload_n hx hb dX5_phaseIn_0 rfl (lv_at hl 0 rfl) ?_
  refine lv_iload_n hx hb dX5_phaseIn_1 rfl (lv_at hl 1 rfl) ?_
  refine ci_le (tgt := 7) hx hb dX5_phaseIn_2 (by decide) (nT (by omega)) (nT (by omega)) (fun c_2 => ?_) (fun c_2 => ?_)
  · refine lv_iload_n hx hb dX5_phaseIn_7 rfl (lv_at hl 0 rfl) ?_
    refine lv_iload_n hx hb dX5_phaseIn_8 rfl (lv_at hl 1 rfl) ?_
    refine ci_ne (tgt := 16) hx hb dX5_phaseIn_9 (by decide) (nT (by omega)) (nT (by omega)) (fun c_9 => ?_) (fun c_9 => ?_)
    · refine lv_iconst (v := nI 2) hx hb dX5_phaseIn_16 (by decide) ?_
      exact fin_i hx hb hr hlocks hP hD hS ((congrArg nI (by unfold phN; (repeat' split) <;> omega))) dX5_phaseIn_17
    · refine lv_iconst (v := nI 1) hx hb dX5_phaseIn_12 (by decide) ?_
      refine lv_goto (tgt := 17) hx hb dX5_phaseIn_13 (by decide) ?_
      exact fin_i hx hb hr hlocks hP hD hS ((congrArg nI (by unfold phN; (repeat' split) <;> omega))) dX5_phaseIn_17
  · refine lv_iconst (v := nI 0) hx hb dX5_phaseIn_5 (by decide) ?_
    exact fin_i hx hb hr hlocks hP hD hS ((congrArg nI (by unfold phN; (repeat' split) <;> omega))) dX5_phaseIn_6
set_option maxHeartbeats 4000000 in
set_option maxRecDepth 100000 in
theorem c_X5_fallOf (l : Launch) (D : va_G) (cI cJ cZ : ClassId) (la : Nat) (si : Nat) (me : Nat) (hla : la < 1000) (hme : me < 1000) (sz : Nat) : Met l yX5_fallOf wsX5_fallOf ({ frames := 1, cells := 0, slots := 0, locals := 21 } : Room) (va_Pc [.int (nI la), .int (nI si), .int (nI me)] (mPre D cI cJ cZ [] sz)) (Qi9 D (va_A [] sz) [] (nI (faN la si me))) 0 0 (va_A [] sz) := by
  refine Met.ofW (cc := cX5_fallOf) (maxL := 3) (ret := (some .int)) (by decide) rfl ?_
  intro p e s m args below meth c s₁ B hml hv
  obtain ⟨hargs, hsz, hP, hT, hD0⟩ := hv
  have hx := B.exec
  have hb := B.bytes
  have hr := B.returns
  have hts := atoms_spec (ws := wsX5_fallOf) B.pre
  have hown : s.vm.findClass RX5 = some m.cls := findClass_of_methodNamed B.named
  have hlocks := B.notSynchronized
  subst hsz
  have hK := hT.1
  have hD := hD0.self (sz := s.heap.size)
  generalize hAe : va_A [] s.heap.size = A at hD ⊢
  have hA : ∀ q : Nat, s.heap.size ≤ q → A q := fun q h => by rw [← hAe]; exact Or.inr h
  have hS : va_S A s.heap s.heap [] := va_S.rf
  obtain ⟨H, hHe⟩ : ∃ H : Heap, H = s.heap := ⟨_, rfl⟩
  have hS : va_S A s.heap H [] := by rw [hHe]; exact va_S.rf
  rw [← hHe] at hP
  suffices K0 : W p l e (headSpec wsX5_fallOf ({ frames := 1, cells := 0, slots := 0, locals := 21 } : Room)).room s m args below meth c H [] 0 0 (MQ below (Qi9 D A [] (nI (faN la si me))) args s 0 0 A) (entryFrame m args 3) by rw [hHe] at K0; exact K0
  refine W.eq (g2 := entryFrame m ([.int (nI la), .int (nI si), .int (nI me)] : List Value).toArray 3) (by rw [hargs]) ?_
  have hl := lv_entry ([.int (nI la), .int (nI si), .int (nI me)]) (n := 3) (Nat.le_of_ble_eq_true rfl)
  rw [lg_entry_eq]
  generalize (lg_sl ([.int (nI la), .int (nI si), .int (nI me)]) ++ List.replicate (3 - (lg_sl ([.int (nI la), .int (nI si), .int (nI me)])).length) Slot.unset).toArray = ls at hl ⊢
  have hl : lv_has ls 3 [(0, .int (nI la)), (1, .int (nI si)), (2, .int (nI me))] := hl
  generalize ([] : List Loc) = locs at hS ⊢
  refine lv_iload_n hx hb dX5_fallOf_0 rfl (lv_at hl 0 rfl) ?_
  refine lv_iload_n hx hb dX5_fallOf_1 rfl (lv_at hl 2 rfl) ?_
  refine cr_i (wc := []) (w1 := []) (ws2 := []) hP hD hS hA [] rfl rfl rfl (va_runS (As := [.int (nI la), .int (nI me)]) (rest := []) ⟨hx, hb, hml, hown, hts⟩ (c_X5_phaseIn l D cI cJ cZ la me (by omega) (by omega) H.size) (va_cwS 2 hts gX5_fallOf_X5_phaseIn rfl rfl rfl (by decide +kernel) ⟨Nat.le_of_ble_eq_true rfl, Nat.le_of_ble_eq_true rfl⟩) (pvS hT hP hD [] rfl rfl) rfl rfl hl.1 rfl (lv_room (Nat.le_of_ble_eq_true rfl)) dX5_fallOf_2 ⟨Nat.zero_le _, Nat.zero_le _⟩) (fun H locs hP hD hS => ?_)
  have hp1 := phN_le la me
  have hp0 := phN_0 la me
  refine c0_ne (tgt := 12) hx hb dX5_fallOf_5 (by decide) (nT (by omega)) (fun c_5 => ?_) (fun c_5 => ?_)
  · refine lv_iload_n hx hb dX5_fallOf_12 rfl (lv_at hl 1 rfl) ?_
    exact fin_i hx hb hr hlocks hP hD hS ((congrArg nI (by unfold faN; split <;> omega))) dX5_fallOf_13
  · refine lv_iconst (v := nI 1) hx hb dX5_fallOf_8 (by decide) ?_
    refine lv_goto (tgt := 13) hx hb dX5_fallOf_9 (by decide) ?_
    exact fin_i hx hb hr hlocks hP hD hS ((congrArg nI (by unfold faN; split <;> omega))) dX5_fallOf_13
set_option maxHeartbeats 4000000 in
set_option maxRecDepth 100000 in
theorem c_X5_waterOf (l : Launch) (D : va_G) (cI cJ cZ : ClassId) (si : Nat) (mn : Nat) (sz : Nat) : Met l yX5_waterOf wsX5_waterOf ({ frames := 0, cells := 0, slots := 0, locals := 0 } : Room) (va_Pc [.int (nI si), .int (nI mn)] (mPre D cI cJ cZ [] sz)) (Ql9 D (va_A [] sz) [] (wtr si mn)) 0 0 (va_A [] sz) := by
  refine Met.ofW (cc := cX5_waterOf) (maxL := 2) (ret := (some .long)) (by decide) rfl ?_
  intro p e s m args below meth c s₁ B hml hv
  obtain ⟨hargs, hsz, hP, hT, hD0⟩ := hv
  have hx := B.exec
  have hb := B.bytes
  have hr := B.returns
  have hts := atoms_spec (ws := wsX5_waterOf) B.pre
  have hown : s.vm.findClass RX5 = some m.cls := findClass_of_methodNamed B.named
  have hlocks := B.notSynchronized
  subst hsz
  have hK := hT.1
  have hD := hD0.self (sz := s.heap.size)
  generalize hAe : va_A [] s.heap.size = A at hD ⊢
  have hA : ∀ q : Nat, s.heap.size ≤ q → A q := fun q h => by rw [← hAe]; exact Or.inr h
  have hS : va_S A s.heap s.heap [] := va_S.rf
  obtain ⟨H, hHe⟩ : ∃ H : Heap, H = s.heap := ⟨_, rfl⟩
  have hS : va_S A s.heap H [] := by rw [hHe]; exact va_S.rf
  rw [← hHe] at hP
  suffices K0 : W p l e (headSpec wsX5_waterOf ({ frames := 0, cells := 0, slots := 0, locals := 0 } : Room)).room s m args below meth c H [] 0 0 (MQ below (Ql9 D A [] (wtr si mn)) args s 0 0 A) (entryFrame m args 2) by rw [hHe] at K0; exact K0
  refine W.eq (g2 := entryFrame m ([.int (nI si), .int (nI mn)] : List Value).toArray 2) (by rw [hargs]) ?_
  have hl := lv_entry ([.int (nI si), .int (nI mn)]) (n := 2) (Nat.le_of_ble_eq_true rfl)
  rw [lg_entry_eq]
  generalize (lg_sl ([.int (nI si), .int (nI mn)]) ++ List.replicate (2 - (lg_sl ([.int (nI si), .int (nI mn)])).length) Slot.unset).toArray = ls at hl ⊢
  have hl : lv_has ls 2 [(0, .int (nI si)), (1, .int (nI mn))] := hl
  generalize ([] : List Loc) = locs at hS ⊢
  refine lv_iload_n hx hb dX5_waterOf_0 rfl (lv_at hl 0 rfl) ?_
  refine lv_i2l (v := (nI si).toInt64) hx hb dX5_waterOf_1 rfl ?_
  refine lv_iload_n hx hb dX5_waterOf_2 rfl (lv_at hl 0 rfl) ?_
  refine lv_i2l (v := (nI si).toInt64) hx hb dX5_waterOf_3 rfl ?_
  refine lv_lmul hx hb dX5_waterOf_4 ?_
  refine lv_iload_n hx hb dX5_waterOf_5 rfl (lv_at hl 0 rfl) ?_
  refine lv_i2l (v := (nI si).toInt64) hx hb dX5_waterOf_6 rfl ?_
  refine lv_lmul hx hb dX5_waterOf_7 ?_
  refine lv_iload_n hx hb dX5_waterOf_8 rfl (lv_at hl 1 rfl) ?_
  refine lv_i2l (v := (nI mn).toInt64) hx hb dX5_waterOf_9 rfl ?_
  refine lv_lmul hx hb dX5_waterOf_10 ?_
  exact fin_l hx hb hr hlocks hP hD hS (rfl) dX5_waterOf_11
set_option maxHeartbeats 4000000 in
set_option maxRecDepth 100000 in
theorem c_X5_layerOfBeam (l : Launch) (D : va_G) (cI cJ cZ : ClassId) (ki : Nat) (ev : Nat) (hki : ki < 20) (hev : ev < 4) (sz : Nat) : Met l yX5_layerOfBeam wsX5_layerOfBeam ({ frames := 0, cells := 0, slots := 0, locals := 0 } : Room) (va_Pc [.int (nI ki), .int (nI ev)] (mPre D cI cJ cZ [] sz)) (Qi9 D (va_A [] sz) [] (nI (bmN ki ev))) 0 0 (va_A [] sz) := by
  refine Met.ofW (cc := cX5_layerOfBeam) (maxL := 2) (ret := (some .int)) (by decide) rfl ?_
  intro p e s m args below meth c s₁ B hml hv
  obtain ⟨hargs, hsz, hP, hT, hD0⟩ := hv
  have hx := B.exec
  have hb := B.bytes
  have hr := B.returns
  have hts := atoms_spec (ws := wsX5_layerOfBeam) B.pre
  have hown : s.vm.findClass RX5 = some m.cls := findClass_of_methodNamed B.named
  have hlocks := B.notSynchronized
  subst hsz
  have hK := hT.1
  have hD := hD0.self (sz := s.heap.size)
  generalize hAe : va_A [] s.heap.size = A at hD ⊢
  have hA : ∀ q : Nat, s.heap.size ≤ q → A q := fun q h => by rw [← hAe]; exact Or.inr h
  have hS : va_S A s.heap s.heap [] := va_S.rf
  obtain ⟨H, hHe⟩ : ∃ H : Heap, H = s.heap := ⟨_, rfl⟩
  have hS : va_S A s.heap H [] := by rw [hHe]; exact va_S.rf
  rw [← hHe] at hP
  suffices K0 : W p l e (headSpec wsX5_layerOfBeam ({ frames := 0, cells := 0, slots := 0, locals := 0 } : Room)).room s m args below meth c H [] 0 0 (MQ below (Qi9 D A [] (nI (bmN ki ev))) args s 0 0 A) (entryFrame m args 2) by rw [hHe] at K0; exact K0
  refine W.eq (g2 := entryFrame m ([.int (nI ki), .int (nI ev)] : List Value).toArray 2) (by rw [hargs]) ?_
  have hl := lv_entry ([.int (nI ki), .int (nI ev)]) (n := 2) (Nat.le_of_ble_eq_true rfl)
  rw [lg_entry_eq]
  generalize (lg_sl ([.int (nI ki), .int (nI ev)]) ++ List.replicate (2 - (lg_sl ([.int (nI ki), .int (nI ev)])).length) Slot.unset).toArray = ls at hl ⊢
  have hl : lv_has ls 2 [(0, .int (nI ki)), (1, .int (nI ev))] := hl
  generalize ([] : List Loc) = locs at hS ⊢
  have q1 : ev * ki ≤ 3 * 19 := Nat.mul_le_mul (by omega) (by omega)
  have q2 : ki * ki ≤ 19 * 19 := Nat.mul_le_mul (by omega) (by omega)
  have q3 : ev * ki / 4 ≤ 57 := by omega
  have q4 : ki * ki / 100 ≤ 361 := by omega
  refine lv_iload_n hx hb dX5_layerOfBeam_0 rfl (lv_at hl 1 rfl) ?_
  refine lv_iload_n hx hb dX5_layerOfBeam_1 rfl (lv_at hl 0 rfl) ?_
  refine lv_imul hx hb dX5_layerOfBeam_2 ?_
  refine tp_i (pk_mul _ _) ?_
  refine lv_iconst (v := nI 4) hx hb dX5_layerOfBeam_3 (by decide) ?_
  refine lv_idiv hx hb dX5_layerOfBeam_4 (by decide) ?_
  refine tp_i (pk_div (by omega) (by omega) (by omega)) ?_
  refine lv_iload_n hx hb dX5_layerOfBeam_5 rfl (lv_at hl 0 rfl) ?_
  refine lv_iload_n hx hb dX5_layerOfBeam_6 rfl (lv_at hl 0 rfl) ?_
  refine lv_imul hx hb dX5_layerOfBeam_7 ?_
  refine tp_i (pk_mul _ _) ?_
  refine lv_bipush (v := nI 100) hx hb dX5_layerOfBeam_8 (by decide) ?_
  refine lv_idiv hx hb dX5_layerOfBeam_10 (by decide) ?_
  refine tp_i (pk_div (by omega) (by omega) (by omega)) ?_
  refine lv_iadd hx hb dX5_layerOfBeam_11 ?_
  refine tp_i (nI_add _ _) ?_
  exact fin_i hx hb hr hlocks hP hD hS (rfl) dX5_layerOfBeam_12
set_option maxHeartbeats 4000000 in
set_option maxRecDepth 100000 in
theorem c_X0_slotOf_in (l : Launch) (D : va_G) (cI cJ cZ : ClassId) (ki : Nat) (la : Nat) (si : Nat) (hki : ki < 20) (hla : la < 10) (hs1 : 1 ≤ si) (hs3 : si ≤ 3) (sz : Nat) : Met l yX0_slotOf wsX0_slotOf ({ frames := 0, cells := 0, slots := 0, locals := 0 } : Room) (va_Pc [.int (nI ki), .int (nI la), .int (nI si)] (mPre D cI cJ cZ [] sz)) (Qi9 D (va_A [] sz) [] (nI (30 * ki + 3 * la + (si - 1)))) 0 0 (va_A [] sz) := by
  refine Met.ofW (cc := cX0_slotOf) (maxL := 3) (ret := (some .int)) (by decide) rfl ?_
  intro p e s m args below meth c s₁ B hml hv
  obtain ⟨hargs, hsz, hP, hT, hD0⟩ := hv
  have hx := B.exec
  have hb := B.bytes
  have hr := B.returns
  have hts := atoms_spec (ws := wsX0_slotOf) B.pre
  have hown : s.vm.findClass RX0 = some m.cls := findClass_of_methodNamed B.named
  have hlocks := B.notSynchronized
  subst hsz
  have hK := hT.1
  have hD := hD0.self (sz := s.heap.size)
  generalize hAe : va_A [] s.heap.size = A at hD ⊢
  have hA : ∀ q : Nat, s.heap.size ≤ q → A q := fun q h => by rw [← hAe]; exact Or.inr h
  have hS : va_S A s.heap s.heap [] := va_S.rf
  obtain ⟨H, hHe⟩ : ∃ H : Heap, H = s.heap := ⟨_, rfl⟩
  have hS : va_S A s.heap H [] := by rw [hHe]; exact va_S.rf
  rw [← hHe] at hP
  suffices K0 : W p l e (headSpec wsX0_slotOf ({ frames := 0, cells := 0, slots := 0, locals := 0 } : Room)).room s m args below meth c H [] 0 0 (MQ below (Qi9 D A [] (nI (30 * ki + 3 * la + (si - 1)))) args s 0 0 A) (entryFrame m args 3) by rw [hHe] at K0; exact K0
  refine W.eq (g2 := entryFrame m ([.int (nI ki), .int (nI la), .int (nI si)] : List Value).toArray 3) (by rw [hargs]) ?_
  have hl := lv_entry ([.int (nI ki), .int (nI la), .int (nI si)]) (n := 3) (Nat.le_of_ble_eq_true rfl)
  rw [lg_entry_eq]
  generalize (lg_sl ([.int (nI ki), .int (nI la), .int (nI si)]) ++ List.replicate (3 - (lg_sl ([.int (nI ki), .int (nI la), .int (nI si)])).length) Slot.unset).toArray = ls at hl ⊢
  have hl : lv_has ls 3 [(0, .int (nI ki)), (1, .int (nI la)), (2, .int (nI si))] := hl
  generalize ([] : List Loc) = locs at hS ⊢
  refine lv_iload_n hx hb dX0_slotOf_0 rfl (lv_at hl 0 rfl) ?_
  refine c0_lt (tgt := 30) hx hb dX0_slotOf_1 (by decide) (nT (by omega)) (fun c_1 => by omega) (fun c_1 => ?_)
  refine lv_iload_n hx hb dX0_slotOf_4 rfl (lv_at hl 0 rfl) ?_
  refine lv_bipush (v := nI 20) hx hb dX0_slotOf_5 (by decide) ?_
  refine ci_ge (tgt := 30) hx hb dX0_slotOf_7 (by decide) (nT (by omega)) (nT (by omega)) (fun c_7 => by omega) (fun c_7 => ?_)
  refine lv_iload_n hx hb dX0_slotOf_10 rfl (lv_at hl 1 rfl) ?_
  refine c0_lt (tgt := 30) hx hb dX0_slotOf_11 (by decide) (nT (by omega)) (fun c_11 => by omega) (fun c_11 => ?_)
  refine lv_iload_n hx hb dX0_slotOf_14 rfl (lv_at hl 1 rfl) ?_
  refine lv_bipush (v := nI 10) hx hb dX0_slotOf_15 (by decide) ?_
  refine ci_ge (tgt := 30) hx hb dX0_slotOf_17 (by decide) (nT (by omega)) (nT (by omega)) (fun c_17 => by omega) (fun c_17 => ?_)
  refine lv_iload_n hx hb dX0_slotOf_20 rfl (lv_at hl 2 rfl) ?_
  refine lv_iconst (v := nI 1) hx hb dX0_slotOf_21 (by decide) ?_
  refine ci_lt (tgt := 30) hx hb dX0_slotOf_22 (by decide) (nT (by omega)) (nT (by omega)) (fun c_22 => by omega) (fun c_22 => ?_)
  refine lv_iload_n hx hb dX0_slotOf_25 rfl (lv_at hl 2 rfl) ?_
  refine lv_iconst (v := nI 3) hx hb dX0_slotOf_26 (by decide) ?_
  refine ci_le (tgt := 32) hx hb dX0_slotOf_27 (by decide) (nT (by omega)) (nT (by omega)) (fun c_27 => ?_) (fun c_27 => by omega)
  refine lv_iload_n hx hb dX0_slotOf_32 rfl (lv_at hl 0 rfl) ?_
  refine lv_bipush (v := nI 10) hx hb dX0_slotOf_33 (by decide) ?_
  refine lv_imul hx hb dX0_slotOf_35 ?_
  refine tp_i (pk_mul _ _) ?_
  refine lv_iload_n hx hb dX0_slotOf_36 rfl (lv_at hl 1 rfl) ?_
  refine lv_iadd hx hb dX0_slotOf_37 ?_
  refine tp_i (nI_add _ _) ?_
  refine lv_iconst (v := nI 3) hx hb dX0_slotOf_38 (by decide) ?_
  refine lv_imul hx hb dX0_slotOf_39 ?_
  refine tp_i (pk_mul _ _) ?_
  refine lv_iload_n hx hb dX0_slotOf_40 rfl (lv_at hl 2 rfl) ?_
  refine lv_iadd hx hb dX0_slotOf_41 ?_
  refine tp_i (nI_add _ _) ?_
  refine lv_iconst (v := nI 1) hx hb dX0_slotOf_42 (by decide) ?_
  refine lv_isub hx hb dX0_slotOf_43 ?_
  refine tp_i (pk_sub (by omega)) ?_
  exact fin_i hx hb hr hlocks hP hD hS (congrArg nI (by omega)) dX0_slotOf_44
set_option maxHeartbeats 4000000 in
set_option maxRecDepth 100000 in
theorem c_X0_slotOf_out (l : Launch) (D : va_G) (cI cJ cZ : ClassId) (ki : Nat) (la : Nat) (si : Nat) (hki : ki < 20) (hla : 10 ≤ la) (hlb : la < 1000) (hs1 : 1 ≤ si) (hs3 : si ≤ 3) (sz : Nat) : Met l yX0_slotOf wsX0_slotOf ({ frames := 0, cells := 0, slots := 0, locals := 0 } : Room) (va_Pc [.int (nI ki), .int (nI la), .int (nI si)] (mPre D cI cJ cZ [] sz)) (Qi9 D (va_A [] sz) [] (zI (-1))) 0 0 (va_A [] sz) := by
  refine Met.ofW (cc := cX0_slotOf) (maxL := 3) (ret := (some .int)) (by decide) rfl ?_
  intro p e s m args below meth c s₁ B hml hv
  obtain ⟨hargs, hsz, hP, hT, hD0⟩ := hv
  have hx := B.exec
  have hb := B.bytes
  have hr := B.returns
  have hts := atoms_spec (ws := wsX0_slotOf) B.pre
  have hown : s.vm.findClass RX0 = some m.cls := findClass_of_methodNamed B.named
  have hlocks := B.notSynchronized
  subst hsz
  have hK := hT.1
  have hD := hD0.self (sz := s.heap.size)
  generalize hAe : va_A [] s.heap.size = A at hD ⊢
  have hA : ∀ q : Nat, s.heap.size ≤ q → A q := fun q h => by rw [← hAe]; exact Or.inr h
  have hS : va_S A s.heap s.heap [] := va_S.rf
  obtain ⟨H, hHe⟩ : ∃ H : Heap, H = s.heap := ⟨_, rfl⟩
  have hS : va_S A s.heap H [] := by rw [hHe]; exact va_S.rf
  rw [← hHe] at hP
  suffices K0 : W p l e (headSpec wsX0_slotOf ({ frames := 0, cells := 0, slots := 0, locals := 0 } : Room)).room s m args below meth c H [] 0 0 (MQ below (Qi9 D A [] (zI (-1))) args s 0 0 A) (entryFrame m args 3) by rw [hHe] at K0; exact K0
  refine W.eq (g2 := entryFrame m ([.int (nI ki), .int (nI la), .int (nI si)] : List Value).toArray 3) (by rw [hargs]) ?_
  have hl := lv_entry ([.int (nI ki), .int (nI la), .int (nI si)]) (n := 3) (Nat.le_of_ble_eq_true rfl)
  rw [lg_entry_eq]
  generalize (lg_sl ([.int (nI ki), .int (nI la), .int (nI si)]) ++ List.replicate (3 - (lg_sl ([.int (nI ki), .int (nI la), .int (nI si)])).length) Slot.unset).toArray = ls at hl ⊢
  have hl : lv_has ls 3 [(0, .int (nI ki)), (1, .int (nI la)), (2, .int (nI si))] := hl
  generalize ([] : List Loc) = locs at hS ⊢
  refine lv_iload_n hx hb dX0_slotOf_0 rfl (lv_at hl 0 rfl) ?_
  refine c0_lt (tgt := 30) hx hb dX0_slotOf_1 (by decide) (nT (by omega)) (fun c_1 => by omega) (fun c_1 => ?_)
  refine lv_iload_n hx hb dX0_slotOf_4 rfl (lv_at hl 0 rfl) ?_
  refine lv_bipush (v := nI 20) hx hb dX0_slotOf_5 (by decide) ?_
  refine ci_ge (tgt := 30) hx hb dX0_slotOf_7 (by decide) (nT (by omega)) (nT (by omega)) (fun c_7 => by omega) (fun c_7 => ?_)
  refine lv_iload_n hx hb dX0_slotOf_10 rfl (lv_at hl 1 rfl) ?_
  refine c0_lt (tgt := 30) hx hb dX0_slotOf_11 (by decide) (nT (by omega)) (fun c_11 => by omega) (fun c_11 => ?_)
  refine lv_iload_n hx hb dX0_slotOf_14 rfl (lv_at hl 1 rfl) ?_
  refine lv_bipush (v := nI 10) hx hb dX0_slotOf_15 (by decide) ?_
  refine ci_ge (tgt := 30) hx hb dX0_slotOf_17 (by decide) (nT (by omega)) (nT (by omega)) (fun c_17 => ?_) (fun c_17 => by omega)
  refine lv_iconst (v := zI (-1)) hx hb dX0_slotOf_30 (by decide) ?_
  exact fin_i hx hb hr hlocks hP hD hS (rfl) dX0_slotOf_31
set_option maxHeartbeats 4000000 in
set_option maxRecDepth 100000 in
theorem c_X0_manyAt_in (l : Launch) (D : va_G) (cI cJ cZ : ClassId) (h0 : Nat) (a1 : Nat) (C : Nat → Nat) (ki : Nat) (la : Nat) (si : Nat) (hki : ki < 20) (hla : la < 10) (hs1 : 1 ≤ si) (hs3 : si ≤ 3) (sz : Nat) : Met l yX0_manyAt wsX0_manyAt ({ frames := 1, cells := 0, slots := 0, locals := 22 } : Room) (va_Pc [.ref h0, .int (nI ki), .int (nI la), .int (nI si)] (mPre D cI cJ cZ [(h0, .inr (0, [.ref a1])), (a1, .inl (cI, 600, .inl (nA C)))] sz)) (Qi9 D (va_A [(h0, .inr (0, [.ref a1])), (a1, .inl (cI, 600, .inl (nA C)))] sz) [(h0, .inr (0, [.ref a1])), (a1, .inl (cI, 600, .inl (nA C)))] (nI (C (30 * ki + 3 * la + (si - 1))))) 0 0 (va_A [(h0, .inr (0, [.ref a1])), (a1, .inl (cI, 600, .inl (nA C)))] sz) := by
  refine Met.ofW (cc := cX0_manyAt) (maxL := 5) (ret := (some .int)) (by decide) rfl ?_
  intro p e s m args below meth c s₁ B hml hv
  obtain ⟨hargs, hsz, hP, hT, hD0⟩ := hv
  have hx := B.exec
  have hb := B.bytes
  have hr := B.returns
  have hts := atoms_spec (ws := wsX0_manyAt) B.pre
  have hown : s.vm.findClass RX0 = some m.cls := findClass_of_methodNamed B.named
  have hlocks := B.notSynchronized
  subst hsz
  have hK := hT.1
  have hD := hD0.self (sz := s.heap.size)
  generalize hAe : va_A [(h0, .inr (0, [.ref a1])), (a1, .inl (cI, 600, .inl (nA C)))] s.heap.size = A at hD ⊢
  have hA : ∀ q : Nat, s.heap.size ≤ q → A q := fun q h => by rw [← hAe]; exact Or.inr h
  have hS : va_S A s.heap s.heap [] := va_S.rf
  obtain ⟨H, hHe⟩ : ∃ H : Heap, H = s.heap := ⟨_, rfl⟩
  have hS : va_S A s.heap H [] := by rw [hHe]; exact va_S.rf
  rw [← hHe] at hP
  suffices K0 : W p l e (headSpec wsX0_manyAt ({ frames := 1, cells := 0, slots := 0, locals := 22 } : Room)).room s m args below meth c H [] 0 0 (MQ below (Qi9 D A [(h0, .inr (0, [.ref a1])), (a1, .inl (cI, 600, .inl (nA C)))] (nI (C (30 * ki + 3 * la + (si - 1))))) args s 0 0 A) (entryFrame m args 5) by rw [hHe] at K0; exact K0
  refine W.eq (g2 := entryFrame m ([.ref h0, .int (nI ki), .int (nI la), .int (nI si)] : List Value).toArray 5) (by rw [hargs]) ?_
  have hl := lv_entry ([.ref h0, .int (nI ki), .int (nI la), .int (nI si)]) (n := 5) (Nat.le_of_ble_eq_true rfl)
  rw [lg_entry_eq]
  generalize (lg_sl ([.ref h0, .int (nI ki), .int (nI la), .int (nI si)]) ++ List.replicate (5 - (lg_sl ([.ref h0, .int (nI ki), .int (nI la), .int (nI si)])).length) Slot.unset).toArray = ls at hl ⊢
  have hl : lv_has ls 5 [(0, .ref h0), (1, .int (nI ki)), (2, .int (nI la)), (3, .int (nI si))] := hl
  generalize ([] : List Loc) = locs at hS ⊢
  have hinX0 : ∀ w ∈ wsX00, w ∈ wsX0_manyAt := by decide +kernel
  have hf9 := hts (.fieldLink RX0 9 "Brightband$Air" "counts" "[I") (by decide +kernel)
  refine lv_iload_n hx hb dX0_manyAt_0 rfl (lv_at hl 1 rfl) ?_
  refine lv_iload_n hx hb dX0_manyAt_1 rfl (lv_at hl 2 rfl) ?_
  refine lv_iload_n hx hb dX0_manyAt_2 rfl (lv_at hl 3 rfl) ?_
  refine cr_i (wc := []) (w1 := []) (ws2 := [(h0, .inr (0, [.ref a1])), (a1, .inl (cI, 600, .inl (nA C)))]) hP hD hS hA [] rfl rfl rfl (va_runS (As := [.int (nI ki), .int (nI la), .int (nI si)]) (rest := []) ⟨hx, hb, hml, hown, hts⟩ (c_X0_slotOf_in l D cI cJ cZ ki la si (by omega) (by omega) (by omega) (by omega) H.size) (va_cwS 3 hts gX0_manyAt_X0_slotOf rfl rfl rfl (by decide +kernel) ⟨Nat.le_of_ble_eq_true rfl, Nat.le_of_ble_eq_true rfl⟩) (pvS hT hP hD [] rfl rfl) rfl rfl hl.1 rfl (lv_room (Nat.le_of_ble_eq_true rfl)) dX0_manyAt_3 ⟨Nat.zero_le _, Nat.zero_le _⟩) (fun H locs hP hD hS => ?_)
  refine lv_istore (lv' := [(4, .int (nI (30 * ki + 3 * la + (si - 1)))), (0, .ref h0), (1, .int (nI ki)), (2, .int (nI la)), (3, .int (nI si))]) hx hb dX0_manyAt_6 hl (by decide) rfl (fun ls hl => ?_)
  refine lv_iload hx hb dX0_manyAt_8 (lv_at hl 0 rfl) ?_
  refine lv_iconst (v := zI (-1)) hx hb dX0_manyAt_10 (by decide) ?_
  refine ci_ne (tgt := 18) hx hb dX0_manyAt_11 (by decide) (nT (by omega)) (zT (by omega) (by omega)) (fun c_11 => ?_) (fun c_11 => by omega)
  refine lv_aload_n hx hb dX0_manyAt_18 rfl (lv_at hl 1 rfl) ?_
  refine va_get (D := D) (ci := 0) (v := .ref a1) (C := RX0) (T := TX0) (N := 1) hx hb hts hinX0 hown hK hP 0 rfl rfl 0 (by decide) hf9 (fun _ h9 => h9) rfl dX0_manyAt_19 ?_
  refine lv_iload hx hb dX0_manyAt_22 (lv_at hl 0 rfl) ?_
  refine ald_N hx hb hK hP 1 0 rfl rfl (30 * ki + 3 * la + (si - 1)) rfl (by omega) (Nat.le_of_ble_eq_true rfl) dX0_manyAt_24 ?_
  exact fin_i hx hb hr hlocks hP hD hS (rfl) dX0_manyAt_25
set_option maxHeartbeats 4000000 in
set_option maxRecDepth 100000 in
theorem c_X0_manyAt_out (l : Launch) (D : va_G) (cI cJ cZ : ClassId) (h0 : Nat) (a1 : Nat) (C : Nat → Nat) (ki : Nat) (la : Nat) (si : Nat) (hki : ki < 20) (hla : 10 ≤ la) (hlb : la < 1000) (hs1 : 1 ≤ si) (hs3 : si ≤ 3) (sz : Nat) : Met l yX0_manyAt wsX0_manyAt ({ frames := 1, cells := 0, slots := 0, locals := 22 } : Room) (va_Pc [.ref h0, .int (nI ki), .int (nI la), .int (nI si)] (mPre D cI cJ cZ [(h0, .inr (0, [.ref a1])), (a1, .inl (cI, 600, .inl (nA C)))] sz)) (Qi9 D (va_A [(h0, .inr (0, [.ref a1])), (a1, .inl (cI, 600, .inl (nA C)))] sz) [(h0, .inr (0, [.ref a1])), (a1, .inl (cI, 600, .inl (nA C)))] (nI 0)) 0 0 (va_A [(h0, .inr (0, [.ref a1])), (a1, .inl (cI, 600, .inl (nA C)))] sz) := by
  refine Met.ofW (cc := cX0_manyAt) (maxL := 5) (ret := (some .int)) (by decide) rfl ?_
  intro p e s m args below meth c s₁ B hml hv
  obtain ⟨hargs, hsz, hP, hT, hD0⟩ := hv
  have hx := B.exec
  have hb := B.bytes
  have hr := B.returns
  have hts := atoms_spec (ws := wsX0_manyAt) B.pre
  have hown : s.vm.findClass RX0 = some m.cls := findClass_of_methodNamed B.named
  have hlocks := B.notSynchronized
  subst hsz
  have hK := hT.1
  have hD := hD0.self (sz := s.heap.size)
  generalize hAe : va_A [(h0, .inr (0, [.ref a1])), (a1, .inl (cI, 600, .inl (nA C)))] s.heap.size = A at hD ⊢
  have hA : ∀ q : Nat, s.heap.size ≤ q → A q := fun q h => by rw [← hAe]; exact Or.inr h
  have hS : va_S A s.heap s.heap [] := va_S.rf
  obtain ⟨H, hHe⟩ : ∃ H : Heap, H = s.heap := ⟨_, rfl⟩
  have hS : va_S A s.heap H [] := by rw [hHe]; exact va_S.rf
  rw [← hHe] at hP
  suffices K0 : W p l e (headSpec wsX0_manyAt ({ frames := 1, cells := 0, slots := 0, locals := 22 } : Room)).room s m args below meth c H [] 0 0 (MQ below (Qi9 D A [(h0, .inr (0, [.ref a1])), (a1, .inl (cI, 600, .inl (nA C)))] (nI 0)) args s 0 0 A) (entryFrame m args 5) by rw [hHe] at K0; exact K0
  refine W.eq (g2 := entryFrame m ([.ref h0, .int (nI ki), .int (nI la), .int (nI si)] : List Value).toArray 5) (by rw [hargs]) ?_
  have hl := lv_entry ([.ref h0, .int (nI ki), .int (nI la), .int (nI si)]) (n := 5) (Nat.le_of_ble_eq_true rfl)
  rw [lg_entry_eq]
  generalize (lg_sl ([.ref h0, .int (nI ki), .int (nI la), .int (nI si)]) ++ List.replicate (5 - (lg_sl ([.ref h0, .int (nI ki), .int (nI la), .int (nI si)])).length) Slot.unset).toArray = ls at hl ⊢
  have hl : lv_has ls 5 [(0, .ref h0), (1, .int (nI ki)), (2, .int (nI la)), (3, .int (nI si))] := hl
  generalize ([] : List Loc) = locs at hS ⊢
  refine lv_iload_n hx hb dX0_manyAt_0 rfl (lv_at hl 1 rfl) ?_
  refine lv_iload_n hx hb dX0_manyAt_1 rfl (lv_at hl 2 rfl) ?_
  refine lv_iload_n hx hb dX0_manyAt_2 rfl (lv_at hl 3 rfl) ?_
  refine cr_i (wc := []) (w1 := []) (ws2 := [(h0, .inr (0, [.ref a1])), (a1, .inl (cI, 600, .inl (nA C)))]) hP hD hS hA [] rfl rfl rfl (va_runS (As := [.int (nI ki), .int (nI la), .int (nI si)]) (rest := []) ⟨hx, hb, hml, hown, hts⟩ (c_X0_slotOf_out l D cI cJ cZ ki la si (by omega) (by omega) (by omega) (by omega) (by omega) H.size) (va_cwS 3 hts gX0_manyAt_X0_slotOf rfl rfl rfl (by decide +kernel) ⟨Nat.le_of_ble_eq_true rfl, Nat.le_of_ble_eq_true rfl⟩) (pvS hT hP hD [] rfl rfl) rfl rfl hl.1 rfl (lv_room (Nat.le_of_ble_eq_true rfl)) dX0_manyAt_3 ⟨Nat.zero_le _, Nat.zero_le _⟩) (fun H locs hP hD hS => ?_)
  refine lv_istore (lv' := [(4, .int (zI (-1))), (0, .ref h0), (1, .int (nI ki)), (2, .int (nI la)), (3, .int (nI si))]) hx hb dX0_manyAt_6 hl (by decide) rfl (fun ls hl => ?_)
  refine lv_iload hx hb dX0_manyAt_8 (lv_at hl 0 rfl) ?_
  refine lv_iconst (v := zI (-1)) hx hb dX0_manyAt_10 (by decide) ?_
  refine ci_ne (tgt := 18) hx hb dX0_manyAt_11 (by decide) (zT (by omega) (by omega)) (zT (by omega) (by omega)) (fun c_11 => by omega) (fun c_11 => ?_)
  refine lv_iconst (v := nI 0) hx hb dX0_manyAt_14 (by decide) ?_
  refine lv_goto (tgt := 25) hx hb dX0_manyAt_15 (by decide) ?_
  exact fin_i hx hb hr hlocks hP hD hS (rfl) dX0_manyAt_25
set_option maxHeartbeats 4000000 in
set_option maxRecDepth 100000 in
theorem c_X0_add (l : Launch) (D : va_G) (cI cJ cZ : ClassId) (h0 : Nat) (a1 : Nat) (C : Nat → Nat) (ki : Nat) (la : Nat) (si : Nat) (mn : Nat) (hki : ki < 20) (hla : la < 10) (hs1 : 1 ≤ si) (hs3 : si ≤ 3) (sz : Nat) : Met l yX0_add wsX0_add ({ frames := 1, cells := 0, slots := 0, locals := 22 } : Room) (va_Pc [.ref h0, .int (nI ki), .int (nI la), .int (nI si), .int (nI mn)] (mPre D cI cJ cZ [(h0, .inr (0, [.ref a1])), (a1, .inl (cI, 600, .inl (nA C)))] sz)) (Qv9 D (va_A [(h0, .inr (0, [.ref a1])), (a1, .inl (cI, 600, .inl (nA C)))] sz) [(h0, .inr (0, [.ref a1])), (a1, .inl (cI, 600, .inl (nA (uN C (30 * ki + 3 * la + (si - 1)) (C (30 * ki + 3 * la + (si - 1)) + mn)))))]) 0 0 (va_A [(h0, .inr (0, [.ref a1])), (a1, .inl (cI, 600, .inl (nA C)))] sz) := by
  refine Met.ofW (cc := cX0_add) (maxL := 6) (ret := none) (by decide) rfl ?_
  intro p e s m args below meth c s₁ B hml hv
  obtain ⟨hargs, hsz, hP, hT, hD0⟩ := hv
  have hx := B.exec
  have hb := B.bytes
  have hr := B.returns
  have hts := atoms_spec (ws := wsX0_add) B.pre
  have hown : s.vm.findClass RX0 = some m.cls := findClass_of_methodNamed B.named
  have hlocks := B.notSynchronized
  subst hsz
  have hK := hT.1
  have hD := hD0.self (sz := s.heap.size)
  generalize hAe : va_A [(h0, .inr (0, [.ref a1])), (a1, .inl (cI, 600, .inl (nA C)))] s.heap.size = A at hD ⊢
  have hA : ∀ q : Nat, s.heap.size ≤ q → A q := fun q h => by rw [← hAe]; exact Or.inr h
  have hS : va_S A s.heap s.heap [] := va_S.rf
  obtain ⟨H, hHe⟩ : ∃ H : Heap, H = s.heap := ⟨_, rfl⟩
  have hS : va_S A s.heap H [] := by rw [hHe]; exact va_S.rf
  rw [← hHe] at hP
  suffices K0 : W p l e (headSpec wsX0_add ({ frames := 1, cells := 0, slots := 0, locals := 22 } : Room)).room s m args below meth c H [] 0 0 (MQ below (Qv9 D A [(h0, .inr (0, [.ref a1])), (a1, .inl (cI, 600, .inl (nA (uN C (30 * ki + 3 * la + (si - 1)) (C (30 * ki + 3 * la + (si - 1)) + mn)))))]) args s 0 0 A) (entryFrame m args 6) by rw [hHe] at K0; exact K0
  refine W.eq (g2 := entryFrame m ([.ref h0, .int (nI ki), .int (nI la), .int (nI si), .int (nI mn)] : List Value).toArray 6) (by rw [hargs]) ?_
  have hl := lv_entry ([.ref h0, .int (nI ki), .int (nI la), .int (nI si), .int (nI mn)]) (n := 6) (Nat.le_of_ble_eq_true rfl)
  rw [lg_entry_eq]
  generalize (lg_sl ([.ref h0, .int (nI ki), .int (nI la), .int (nI si), .int (nI mn)]) ++ List.replicate (6 - (lg_sl ([.ref h0, .int (nI ki), .int (nI la), .int (nI si), .int (nI mn)])).length) Slot.unset).toArray = ls at hl ⊢
  have hl : lv_has ls 6 [(0, .ref h0), (1, .int (nI ki)), (2, .int (nI la)), (3, .int (nI si)), (4, .int (nI mn))] := hl
  generalize ([] : List Loc) = locs at hS ⊢
  have hinX0 : ∀ w ∈ wsX00, w ∈ wsX0_add := by decide +kernel
  have hf9 := hts (.fieldLink RX0 9 "Brightband$Air" "counts" "[I") (by decide +kernel)
  refine lv_iload_n hx hb dX0_add_0 rfl (lv_at hl 1 rfl) ?_
  refine lv_iload_n hx hb dX0_add_1 rfl (lv_at hl 2 rfl) ?_
  refine lv_iload_n hx hb dX0_add_2 rfl (lv_at hl 3 rfl) ?_
  refine cr_i (wc := []) (w1 := []) (ws2 := [(h0, .inr (0, [.ref a1])), (a1, .inl (cI, 600, .inl (nA C)))]) hP hD hS hA [] rfl rfl rfl (va_runS (As := [.int (nI ki), .int (nI la), .int (nI si)]) (rest := []) ⟨hx, hb, hml, hown, hts⟩ (c_X0_slotOf_in l D cI cJ cZ ki la si (by omega) (by omega) (by omega) (by omega) H.size) (va_cwS 3 hts gX0_add_X0_slotOf rfl rfl rfl (by decide +kernel) ⟨Nat.le_of_ble_eq_true rfl, Nat.le_of_ble_eq_true rfl⟩) (pvS hT hP hD [] rfl rfl) rfl rfl hl.1 rfl (lv_room (Nat.le_of_ble_eq_true rfl)) dX0_add_3 ⟨Nat.zero_le _, Nat.zero_le _⟩) (fun H locs hP hD hS => ?_)
  refine lv_istore (lv' := [(5, .int (nI (30 * ki + 3 * la + (si - 1)))), (0, .ref h0), (1, .int (nI ki)), (2, .int (nI la)), (3, .int (nI si)), (4, .int (nI mn))]) hx hb dX0_add_6 hl (by decide) rfl (fun ls hl => ?_)
  refine lv_iload hx hb dX0_add_8 (lv_at hl 0 rfl) ?_
  refine lv_iconst (v := zI (-1)) hx hb dX0_add_10 (by decide) ?_
  refine ci_eq (tgt := 26) hx hb dX0_add_11 (by decide) (nT (by omega)) (zT (by omega) (by omega)) (fun c_11 => by omega) (fun c_11 => ?_)
  refine lv_aload_n hx hb dX0_add_14 rfl (lv_at hl 1 rfl) ?_
  refine va_get (D := D) (ci := 0) (v := .ref a1) (C := RX0) (T := TX0) (N := 1) hx hb hts hinX0 hown hK hP 0 rfl rfl 0 (by decide) hf9 (fun _ h9 => h9) rfl dX0_add_15 ?_
  refine lv_iload hx hb dX0_add_18 (lv_at hl 0 rfl) ?_
  refine lv_dup2_11 hx hb dX0_add_20 rfl rfl ?_
  refine ald_N hx hb hK hP 1 0 rfl rfl (30 * ki + 3 * la + (si - 1)) rfl (by omega) (Nat.le_of_ble_eq_true rfl) dX0_add_21 ?_
  refine lv_iload hx hb dX0_add_22 (lv_at hl 5 rfl) ?_
  refine lv_iadd hx hb dX0_add_24 ?_
  refine tp_i (nI_add _ _) ?_
  refine ast_N (x := (C (30 * ki + 3 * la + (si - 1))) + mn) hx hb hK hP hD hS 1 0 rfl rfl (30 * ki + 3 * la + (si - 1)) rfl (by omega) (Nat.le_of_ble_eq_true rfl) dX0_add_25 (fun H locs hP hD hS => ?_)
  have hP : va_P D vwCl [(h0, .inr (0, [.ref a1])), (a1, .inl (cI, 600, .inl (nA (uN C (30 * ki + 3 * la + (si - 1)) ((C (30 * ki + 3 * la + (si - 1))) + mn)))))] H := hP
  have hD : va_D A [(h0, .inr (0, [.ref a1])), (a1, .inl (cI, 600, .inl (nA (uN C (30 * ki + 3 * la + (si - 1)) ((C (30 * ki + 3 * la + (si - 1))) + mn)))))] := hD
  have hwe : ([(h0, .inr (0, [.ref a1])), (a1, .inl (cI, 600, .inl (nA (uN C (30 * ki + 3 * la + (si - 1)) (C (30 * ki + 3 * la + (si - 1)) + mn)))))] : va_W) = [(h0, .inr (0, [.ref a1])), (a1, .inl (cI, 600, .inl (nA (uN C (30 * ki + 3 * la + (si - 1)) ((C (30 * ki + 3 * la + (si - 1))) + mn)))))] := rfl
  have hP : va_P D vwCl [(h0, .inr (0, [.ref a1])), (a1, .inl (cI, 600, .inl (nA (uN C (30 * ki + 3 * la + (si - 1)) (C (30 * ki + 3 * la + (si - 1)) + mn)))))] H := by rw [hwe]; exact hP
  have hD : va_D A [(h0, .inr (0, [.ref a1])), (a1, .inl (cI, 600, .inl (nA (uN C (30 * ki + 3 * la + (si - 1)) (C (30 * ki + 3 * la + (si - 1)) + mn)))))] := by rw [hwe]; exact hD
  exact fin_v hx hb hr hlocks hP hD hS dX0_add_26
set_option maxHeartbeats 4000000 in
set_option maxRecDepth 100000 in
theorem c_X0_takeAll (l : Launch) (D : va_G) (cI cJ cZ : ClassId) (h0 : Nat) (a1 : Nat) (C : Nat → Nat) (ki : Nat) (la : Nat) (si : Nat) (hki : ki < 20) (hla : la < 10) (hs1 : 1 ≤ si) (hs3 : si ≤ 3) (sz : Nat) : Met l yX0_takeAll wsX0_takeAll ({ frames := 1, cells := 0, slots := 0, locals := 22 } : Room) (va_Pc [.ref h0, .int (nI ki), .int (nI la), .int (nI si)] (mPre D cI cJ cZ [(h0, .inr (0, [.ref a1])), (a1, .inl (cI, 600, .inl (nA C)))] sz)) (Qi9 D (va_A [(h0, .inr (0, [.ref a1])), (a1, .inl (cI, 600, .inl (nA C)))] sz) [(h0, .inr (0, [.ref a1])), (a1, .inl (cI, 600, .inl (nA (uN C (30 * ki + 3 * la + (si - 1)) 0))))] (nI (C (30 * ki + 3 * la + (si - 1))))) 0 0 (va_A [(h0, .inr (0, [.ref a1])), (a1, .inl (cI, 600, .inl (nA C)))] sz) := by
  refine Met.ofW (cc := cX0_takeAll) (maxL := 6) (ret := (some .int)) (by decide) rfl ?_
  intro p e s m args below meth c s₁ B hml hv
  obtain ⟨hargs, hsz, hP, hT, hD0⟩ := hv
  have hx := B.exec
  have hb := B.bytes
  have hr := B.returns
  have hts := atoms_spec (ws := wsX0_takeAll) B.pre
  have hown : s.vm.findClass RX0 = some m.cls := findClass_of_methodNamed B.named
  have hlocks := B.notSynchronized
  subst hsz
  have hK := hT.1
  have hD := hD0.self (sz := s.heap.size)
  generalize hAe : va_A [(h0, .inr (0, [.ref a1])), (a1, .inl (cI, 600, .inl (nA C)))] s.heap.size = A at hD ⊢
  have hA : ∀ q : Nat, s.heap.size ≤ q → A q := fun q h => by rw [← hAe]; exact Or.inr h
  have hS : va_S A s.heap s.heap [] := va_S.rf
  obtain ⟨H, hHe⟩ : ∃ H : Heap, H = s.heap := ⟨_, rfl⟩
  have hS : va_S A s.heap H [] := by rw [hHe]; exact va_S.rf
  rw [← hHe] at hP
  suffices K0 : W p l e (headSpec wsX0_takeAll ({ frames := 1, cells := 0, slots := 0, locals := 22 } : Room)).room s m args below meth c H [] 0 0 (MQ below (Qi9 D A [(h0, .inr (0, [.ref a1])), (a1, .inl (cI, 600, .inl (nA (uN C (30 * ki + 3 * la + (si - 1)) 0))))] (nI (C (30 * ki + 3 * la + (si - 1))))) args s 0 0 A) (entryFrame m args 6) by rw [hHe] at K0; exact K0
  refine W.eq (g2 := entryFrame m ([.ref h0, .int (nI ki), .int (nI la), .int (nI si)] : List Value).toArray 6) (by rw [hargs]) ?_
  have hl := lv_entry ([.ref h0, .int (nI ki), .int (nI la), .int (nI si)]) (n := 6) (Nat.le_of_ble_eq_true rfl)
  rw [lg_entry_eq]
  generalize (lg_sl ([.ref h0, .int (nI ki), .int (nI la), .int (nI si)]) ++ List.replicate (6 - (lg_sl ([.ref h0, .int (nI ki), .int (nI la), .int (nI si)])).length) Slot.unset).toArray = ls at hl ⊢
  have hl : lv_has ls 6 [(0, .ref h0), (1, .int (nI ki)), (2, .int (nI la)), (3, .int (nI si))] := hl
  generalize ([] : List Loc) = locs at hS ⊢
  have hinX0 : ∀ w ∈ wsX00, w ∈ wsX0_takeAll := by decide +kernel
  have hf9 := hts (.fieldLink RX0 9 "Brightband$Air" "counts" "[I") (by decide +kernel)
  refine lv_iload_n hx hb dX0_takeAll_0 rfl (lv_at hl 1 rfl) ?_
  refine lv_iload_n hx hb dX0_takeAll_1 rfl (lv_at hl 2 rfl) ?_
  refine lv_iload_n hx hb dX0_takeAll_2 rfl (lv_at hl 3 rfl) ?_
  refine cr_i (wc := []) (w1 := []) (ws2 := [(h0, .inr (0, [.ref a1])), (a1, .inl (cI, 600, .inl (nA C)))]) hP hD hS hA [] rfl rfl rfl (va_runS (As := [.int (nI ki), .int (nI la), .int (nI si)]) (rest := []) ⟨hx, hb, hml, hown, hts⟩ (c_X0_slotOf_in l D cI cJ cZ ki la si (by omega) (by omega) (by omega) (by omega) H.size) (va_cwS 3 hts gX0_takeAll_X0_slotOf rfl rfl rfl (by decide +kernel) ⟨Nat.le_of_ble_eq_true rfl, Nat.le_of_ble_eq_true rfl⟩) (pvS hT hP hD [] rfl rfl) rfl rfl hl.1 rfl (lv_room (Nat.le_of_ble_eq_true rfl)) dX0_takeAll_3 ⟨Nat.zero_le _, Nat.zero_le _⟩) (fun H locs hP hD hS => ?_)
  refine lv_istore (lv' := [(4, .int (nI (30 * ki + 3 * la + (si - 1)))), (0, .ref h0), (1, .int (nI ki)), (2, .int (nI la)), (3, .int (nI si))]) hx hb dX0_takeAll_6 hl (by decide) rfl (fun ls hl => ?_)
  refine lv_iload hx hb dX0_takeAll_8 (lv_at hl 0 rfl) ?_
  refine lv_iconst (v := zI (-1)) hx hb dX0_takeAll_10 (by decide) ?_
  refine ci_ne (tgt := 16) hx hb dX0_takeAll_11 (by decide) (nT (by omega)) (zT (by omega) (by omega)) (fun c_11 => ?_) (fun c_11 => by omega)
  refine lv_aload_n hx hb dX0_takeAll_16 rfl (lv_at hl 1 rfl) ?_
  refine va_get (D := D) (ci := 0) (v := .ref a1) (C := RX0) (T := TX0) (N := 1) hx hb hts hinX0 hown hK hP 0 rfl rfl 0 (by decide) hf9 (fun _ h9 => h9) rfl dX0_takeAll_17 ?_
  refine lv_iload hx hb dX0_takeAll_20 (lv_at hl 0 rfl) ?_
  refine ald_N hx hb hK hP 1 0 rfl rfl (30 * ki + 3 * la + (si - 1)) rfl (by omega) (Nat.le_of_ble_eq_true rfl) dX0_takeAll_22 ?_
  refine lv_istore (lv' := [(5, .int (nI (C (30 * ki + 3 * la + (si - 1))))), (4, .int (nI (30 * ki + 3 * la + (si - 1)))), (0, .ref h0), (1, .int (nI ki)), (2, .int (nI la)), (3, .int (nI si))]) hx hb dX0_takeAll_23 hl (by decide) rfl (fun ls hl => ?_)
  refine lv_aload_n hx hb dX0_takeAll_25 rfl (lv_at hl 2 rfl) ?_
  refine va_get (D := D) (ci := 0) (v := .ref a1) (C := RX0) (T := TX0) (N := 1) hx hb hts hinX0 hown hK hP 0 rfl rfl 0 (by decide) hf9 (fun _ h9 => h9) rfl dX0_takeAll_26 ?_
  refine lv_iload hx hb dX0_takeAll_29 (lv_at hl 1 rfl) ?_
  refine lv_iconst (v := nI 0) hx hb dX0_takeAll_31 (by decide) ?_
  refine ast_N (x := 0) hx hb hK hP hD hS 1 0 rfl rfl (30 * ki + 3 * la + (si - 1)) rfl (by omega) (Nat.le_of_ble_eq_true rfl) dX0_takeAll_32 (fun H locs hP hD hS => ?_)
  have hP : va_P D vwCl [(h0, .inr (0, [.ref a1])), (a1, .inl (cI, 600, .inl (nA (uN C (30 * ki + 3 * la + (si - 1)) 0))))] H := hP
  have hD : va_D A [(h0, .inr (0, [.ref a1])), (a1, .inl (cI, 600, .inl (nA (uN C (30 * ki + 3 * la + (si - 1)) 0))))] := hD
  refine lv_iload hx hb dX0_takeAll_33 (lv_at hl 0 rfl) ?_
  exact fin_i hx hb hr hlocks hP hD hS (rfl) dX0_takeAll_35
set_option maxHeartbeats 4000000 in
set_option maxRecDepth 100000 in
theorem c_X0_letFall (l : Launch) (D : va_G) (cI cJ cZ : ClassId) (h0 : Nat) (a1 : Nat) (C : Nat → Nat) (ki : Nat) (me : Nat) (hki : ki < 20) (hme : me < 10) (sz : Nat) : Met l yX0_letFall wsX0_letFall ({ frames := 2, cells := 0, slots := 0, locals := 47 } : Room) (va_Pc [.ref h0, .int (nI ki), .int (nI me)] (mPre D cI cJ cZ [(h0, .inr (0, [.ref a1])), (a1, .inl (cI, 600, .inl (nA C)))] sz)) (Ql9 D (va_A [(h0, .inr (0, [.ref a1])), (a1, .inl (cI, 600, .inl (nA C)))] sz) [(h0, .inr (0, [.ref a1])), (a1, .inl (cI, 600, .inl (nA (FC me C (30 * ki) 30))))] (FL me C (30 * ki) 30)) 0 0 (va_A [(h0, .inr (0, [.ref a1])), (a1, .inl (cI, 600, .inl (nA C)))] sz) := by
  refine Met.ofW (cc := cX0_letFall) (maxL := 9) (ret := (some .long)) (by decide) rfl ?_
  intro p e s m args below meth c s₁ B hml hv
  obtain ⟨hargs, hsz, hP, hT, hD0⟩ := hv
  have hx := B.exec
  have hb := B.bytes
  have hr := B.returns
  have hts := atoms_spec (ws := wsX0_letFall) B.pre
  have hown : s.vm.findClass RX0 = some m.cls := findClass_of_methodNamed B.named
  have hlocks := B.notSynchronized
  subst hsz
  have hK := hT.1
  have hD := hD0.self (sz := s.heap.size)
  generalize hAe : va_A [(h0, .inr (0, [.ref a1])), (a1, .inl (cI, 600, .inl (nA C)))] s.heap.size = A at hD ⊢
  have hA : ∀ q : Nat, s.heap.size ≤ q → A q := fun q h => by rw [← hAe]; exact Or.inr h
  have hS : va_S A s.heap s.heap [] := va_S.rf
  obtain ⟨H, hHe⟩ : ∃ H : Heap, H = s.heap := ⟨_, rfl⟩
  have hS : va_S A s.heap H [] := by rw [hHe]; exact va_S.rf
  rw [← hHe] at hP
  suffices K0 : W p l e (headSpec wsX0_letFall ({ frames := 2, cells := 0, slots := 0, locals := 47 } : Room)).room s m args below meth c H [] 0 0 (MQ below (Ql9 D A [(h0, .inr (0, [.ref a1])), (a1, .inl (cI, 600, .inl (nA (FC me C (30 * ki) 30))))] (FL me C (30 * ki) 30)) args s 0 0 A) (entryFrame m args 9) by rw [hHe] at K0; exact K0
  refine W.eq (g2 := entryFrame m ([.ref h0, .int (nI ki), .int (nI me)] : List Value).toArray 9) (by rw [hargs]) ?_
  have hl := lv_entry ([.ref h0, .int (nI ki), .int (nI me)]) (n := 9) (Nat.le_of_ble_eq_true rfl)
  rw [lg_entry_eq]
  generalize (lg_sl ([.ref h0, .int (nI ki), .int (nI me)]) ++ List.replicate (9 - (lg_sl ([.ref h0, .int (nI ki), .int (nI me)])).length) Slot.unset).toArray = ls at hl ⊢
  have hl : lv_has ls 9 [(0, .ref h0), (1, .int (nI ki)), (2, .int (nI me))] := hl
  generalize ([] : List Loc) = locs at hS ⊢
  refine lv_lconst (v := 0) hx hb dX0_letFall_0 (by decide) ?_
  refine lv_lstore_n (lv' := [(3, .long 0), (0, .ref h0), (1, .int (nI ki)), (2, .int (nI me))]) hx hb dX0_letFall_1 rfl hl (by decide) rfl (fun ls hl => ?_)
  refine lv_iconst (v := nI 0) hx hb dX0_letFall_2 (by decide) ?_
  refine lv_istore (lv' := [(5, .int (nI 0)), (3, .long 0), (0, .ref h0), (1, .int (nI ki)), (2, .int (nI me))]) hx hb dX0_letFall_3 hl (by decide) rfl (fun ls hl => ?_)
  have lp5 : ∀ (n la : Nat), la + n = 10 → ∀ (H : Heap) (locs : List Loc), va_P D vwCl [(h0, .inr (0, [.ref a1])), (a1, .inl (cI, 600, .inl (nA (FC me C (30 * ki) (3 * la)))))] H → va_D A [(h0, .inr (0, [.ref a1])), (a1, .inl (cI, 600, .inl (nA (FC me C (30 * ki) (3 * la)))))] → va_S A s.heap H locs → ∀ (ls : Array Slot), lv_has ls 9 [(0, .ref h0), (1, .int (nI ki)), (2, .int (nI me)), (3, .long (FL me C (30 * ki) (3 * la))), (5, .int (nI la))] → W p l e (headSpec wsX0_letFall ({ frames := 2, cells := 0, slots := 0, locals := 47 } : Room)).room s m args below meth c H locs 0 0 (MQ below (Ql9 D A [(h0, .inr (0, [.ref a1])), (a1, .inl (cI, 600, .inl (nA (FC me C (30 * ki) 30))))] (FL me C (30 * ki) 30)) args s 0 0 A) (F0 m 5 ls []) := by
    intro n
    induction n with
    | zero =>
      intro la hcntla H locs hP hD hS ls hl
      obtain rfl : 10 = la := by omega
      refine lv_iload hx hb dX0_letFall_5 (lv_at hl 4 rfl) ?_
      refine lv_bipush (v := nI 10) hx hb dX0_letFall_7 (by decide) ?_
      refine ci_ge (tgt := 86) hx hb dX0_letFall_9 (by decide) (nT (by omega)) (nT (by omega)) (fun c_9 => ?_) (fun c_9 => by omega)
      refine lv_lload_n hx hb dX0_letFall_86 rfl (lv_at hl 3 rfl) ?_
      have hwe : ([(h0, .inr (0, [.ref a1])), (a1, .inl (cI, 600, .inl (nA (FC me C (30 * ki) 30))))] : va_W) = [(h0, .inr (0, [.ref a1])), (a1, .inl (cI, 600, .inl (nA (FC me C (30 * ki) (3 * 10)))))] := rfl
      have hP : va_P D vwCl [(h0, .inr (0, [.ref a1])), (a1, .inl (cI, 600, .inl (nA (FC me C (30 * ki) 30))))] H := by rw [hwe]; exact hP
      have hD : va_D A [(h0, .inr (0, [.ref a1])), (a1, .inl (cI, 600, .inl (nA (FC me C (30 * ki) 30))))] := by rw [hwe]; exact hD
      exact fin_l hx hb hr hlocks hP hD hS (rfl) dX0_letFall_87
    | succ n ih =>
      intro la hcntla H locs hP hD hS ls hl
      have hltla : la < 10 := by omega
      refine lv_iload hx hb dX0_letFall_5 (lv_at hl 4 rfl) ?_
      refine lv_bipush (v := nI 10) hx hb dX0_letFall_7 (by decide) ?_
      refine ci_ge (tgt := 86) hx hb dX0_letFall_9 (by decide) (nT (by omega)) (nT (by omega)) (fun c_9 => by omega) (fun c_9 => ?_)
      refine lv_iconst (v := nI 1) hx hb dX0_letFall_12 (by decide) ?_
      refine lv_istore (lv' := [(6, .int (nI 1)), (0, .ref h0), (1, .int (nI ki)), (2, .int (nI me)), (3, .long (FL me C (30 * ki) (3 * la))), (5, .int (nI la))]) hx hb dX0_letFall_13 hl (by decide) rfl (fun ls hl => ?_)
      have lp15 : ∀ (n z : Nat), z + n = 3 → ∀ (H : Heap) (locs : List Loc), va_P D vwCl [(h0, .inr (0, [.ref a1])), (a1, .inl (cI, 600, .inl (nA (FC me C (30 * ki) (3 * la + z)))))] H → va_D A [(h0, .inr (0, [.ref a1])), (a1, .inl (cI, 600, .inl (nA (FC me C (30 * ki) (3 * la + z)))))] → va_S A s.heap H locs → ∀ (ls : Array Slot), lv_has ls 9 [(0, .ref h0), (1, .int (nI ki)), (2, .int (nI me)), (3, .long (FL me C (30 * ki) (3 * la + z))), (5, .int (nI la)), (6, .int (nI (z + 1)))] → W p l e (headSpec wsX0_letFall ({ frames := 2, cells := 0, slots := 0, locals := 47 } : Room)).room s m args below meth c H locs 0 0 (MQ below (Ql9 D A [(h0, .inr (0, [.ref a1])), (a1, .inl (cI, 600, .inl (nA (FC me C (30 * ki) 30))))] (FL me C (30 * ki) 30)) args s 0 0 A) (F0 m 15 ls []) := by
        intro n
        induction n with
        | zero =>
          intro z hcntz H locs hP hD hS ls hl
          obtain rfl : 3 = z := by omega
          refine lv_iload hx hb dX0_letFall_15 (lv_at hl 5 rfl) ?_
          refine lv_iconst (v := nI 3) hx hb dX0_letFall_17 (by decide) ?_
          refine ci_gt (tgt := 80) hx hb dX0_letFall_18 (by decide) (nT (by omega)) (nT (by omega)) (fun c_18 => ?_) (fun c_18 => by omega)
          refine lv_iinc (v := nI (la + 1)) (lv' := [(5, .int (nI (la + 1))), (0, .ref h0), (1, .int (nI ki)), (2, .int (nI me)), (3, .long (FL me C (30 * ki) (3 * la + 3))), (6, .int (nI (3 + 1)))]) hx hb dX0_letFall_80 hl (k := 4) rfl (n_inc la) (by decide) rfl (fun ls hl => ?_)
          refine lv_goto (tgt := 5) hx hb dX0_letFall_83 (by decide) ?_
          have hwe : ([(h0, .inr (0, [.ref a1])), (a1, .inl (cI, 600, .inl (nA (FC me C (30 * ki) (3 * (la + 1))))))] : va_W) = [(h0, .inr (0, [.ref a1])), (a1, .inl (cI, 600, .inl (nA (FC me C (30 * ki) (3 * la + 3)))))] := rfl
          have hle : ([(0, .ref h0), (1, .int (nI ki)), (2, .int (nI me)), (3, .long (FL me C (30 * ki) (3 * (la + 1)))), (5, .int (nI (la + 1)))] : List (Nat × Value)) = [(0, .ref h0), (1, .int (nI ki)), (2, .int (nI me)), (3, .long (FL me C (30 * ki) (3 * la + 3))), (5, .int (nI (la + 1)))] := rfl
          exact ih (la + 1) (by omega) H locs (by rw [hwe]; exact hP) (by rw [hwe]; exact hD) hS ls (by rw [hle]; exact lv_sub hl [1, 2, 3, 4, 0] rfl)
        | succ n ih =>
          intro z hcntz H locs hP hD hS ls hl
          have hltz : z < 3 := by omega
          refine lv_iload hx hb dX0_letFall_15 (lv_at hl 5 rfl) ?_
          refine lv_iconst (v := nI 3) hx hb dX0_letFall_17 (by decide) ?_
          refine ci_gt (tgt := 80) hx hb dX0_letFall_18 (by decide) (nT (by omega)) (nT (by omega)) (fun c_18 => by omega) (fun c_18 => ?_)
          refine lv_aload_n hx hb dX0_letFall_21 rfl (lv_at hl 0 rfl) ?_
          refine lv_iload_n hx hb dX0_letFall_22 rfl (lv_at hl 1 rfl) ?_
          refine lv_iload hx hb dX0_letFall_23 (lv_at hl 4 rfl) ?_
          refine lv_iload hx hb dX0_letFall_25 (lv_at hl 5 rfl) ?_
          refine cr_i (wc := [(h0, .inr (0, [.ref a1])), (a1, .inl (cI, 600, .inl (nA (FC me C (30 * ki) (3 * la + z)))))]) (w1 := [(h0, .inr (0, [.ref a1])), (a1, .inl (cI, 600, .inl (nA (uN (FC me C (30 * ki) (3 * la + z)) (30 * ki + 3 * la + ((z + 1) - 1)) 0))))]) (ws2 := [(h0, .inr (0, [.ref a1])), (a1, .inl (cI, 600, .inl (nA (uN (FC me C (30 * ki) (3 * la + z)) (30 * ki + 3 * la + ((z + 1) - 1)) 0))))]) hP hD hS hA [0, 1] rfl rfl rfl (va_runV (As := [.int (nI ki), .int (nI la), .int (nI (z + 1))]) (rest := []) ⟨hx, hb, hml, hown, hts⟩ (c_X0_takeAll l D cI cJ cZ h0 a1 (FC me C (30 * ki) (3 * la + z)) ki la (z + 1) (by omega) (by omega) (by omega) (by omega) H.size) (cwV 3 hts gX0_letFall_X0_takeAll rfl rfl rfl (by decide +kernel) ⟨Nat.le_of_ble_eq_true rfl, Nat.le_of_ble_eq_true rfl⟩) (pvV hT hP hD [0, 1] rfl rfl 0 rfl rfl) rfl rfl hl.1 rfl (lv_room (Nat.le_of_ble_eq_true rfl)) dX0_letFall_27 ⟨Nat.zero_le _, Nat.zero_le _⟩) (fun H locs hP hD hS => ?_)
          refine lv_istore (lv' := [(7, .int (nI ((FC me C (30 * ki) (3 * la + z)) (30 * ki + 3 * la + ((z + 1) - 1))))), (0, .ref h0), (1, .int (nI ki)), (2, .int (nI me)), (3, .long (FL me C (30 * ki) (3 * la + z))), (5, .int (nI la)), (6, .int (nI (z + 1)))]) hx hb dX0_letFall_30 hl (by decide) rfl (fun ls hl => ?_)
          have hfa := faN_le (la := la) (si := z + 1) (me := me) (by omega) (by omega)
          refine lv_iload hx hb dX0_letFall_32 (lv_at hl 5 rfl) ?_
          refine lv_iload hx hb dX0_letFall_34 (lv_at hl 5 rfl) ?_
          refine lv_iload hx hb dX0_letFall_36 (lv_at hl 6 rfl) ?_
          refine lv_iload_n hx hb dX0_letFall_38 rfl (lv_at hl 3 rfl) ?_
          refine cr_i (wc := []) (w1 := []) (ws2 := [(h0, .inr (0, [.ref a1])), (a1, .inl (cI, 600, .inl (nA (uN (FC me C (30 * ki) (3 * la + z)) (30 * ki + 3 * la + ((z + 1) - 1)) 0))))]) hP hD hS hA [] rfl rfl rfl (va_runSN (As := [.int (nI la), .int (nI (z + 1)), .int (nI me)]) (rest := [.int (nI la)]) ⟨hx, hb, hml, hown, hts⟩ (c_X5_fallOf l D cI cJ cZ la (z + 1) me (by omega) (by omega) H.size) ⟨va_cnB 3 hts gX0_letFall_X5_fallOf_n22 rfl rfl rfl hT.2.2.2.2.2.2.1 (hts (.initialized RX5) (by decide +kernel)) (by decide +kernel) ⟨Nat.le_of_ble_eq_true rfl, Nat.le_of_ble_eq_true rfl⟩, hts (.static yX5_fallOf) (by decide +kernel), trivial⟩ (pvS hT hP hD [] rfl rfl) rfl rfl hl.1 rfl (lv_room (Nat.le_of_ble_eq_true rfl)) dX0_letFall_39 ⟨Nat.zero_le _, Nat.zero_le _⟩) (fun H locs hP hD hS => ?_)
          refine lv_isub hx hb dX0_letFall_42 ?_
          refine tp_i (zn_sub _ _) ?_
          refine lv_istore (lv' := [(8, .int (zI (((la) : Int) - ((faN la (z + 1) me : Nat) : Int)))), (7, .int (nI ((FC me C (30 * ki) (3 * la + z)) (30 * ki + 3 * la + ((z + 1) - 1))))), (0, .ref h0), (1, .int (nI ki)), (2, .int (nI me)), (3, .long (FL me C (30 * ki) (3 * la + z))), (5, .int (nI la)), (6, .int (nI (z + 1)))]) hx hb dX0_letFall_43 hl (by decide) rfl (fun ls hl => ?_)
          refine lv_iload hx hb dX0_letFall_45 (lv_at hl 0 rfl) ?_
          refine c0_ge (tgt := 63) hx hb dX0_letFall_47 (by decide) (zT (by omega) (by omega)) (fun cfz => ?_) (fun cfz => ?_)
          · have hfz : ¬ la < faN la (z + 1) me := by omega
            have hC := FC_b (me := me) (C := C) (ki := ki) hltla hltz hfz
            have hL := FL_b (me := me) (C := C) (ki := ki) hltla hltz hfz
            refine lv_aload_n hx hb dX0_letFall_63 rfl (lv_at hl 2 rfl) ?_
            refine lv_iload_n hx hb dX0_letFall_64 rfl (lv_at hl 3 rfl) ?_
            refine lv_iload hx hb dX0_letFall_65 (lv_at hl 0 rfl) ?_
            refine tp_i (show (zI (((la) : Int) - ((faN la (z + 1) me : Nat) : Int)) : Int32) = nI (la - faN la (z + 1) me) from z_n (by omega)) ?_
            refine lv_iload hx hb dX0_letFall_67 (lv_at hl 7 rfl) ?_
            refine lv_iload hx hb dX0_letFall_69 (lv_at hl 1 rfl) ?_
            refine cr_v (wc := [(h0, .inr (0, [.ref a1])), (a1, .inl (cI, 600, .inl (nA (uN (FC me C (30 * ki) (3 * la + z)) (30 * ki + 3 * la + ((z + 1) - 1)) 0))))]) (w1 := [(h0, .inr (0, [.ref a1])), (a1, .inl (cI, 600, .inl (nA (uN (uN (FC me C (30 * ki) (3 * la + z)) (30 * ki + 3 * la + ((z + 1) - 1)) 0) (30 * ki + 3 * (la - faN la (z + 1) me) + ((z + 1) - 1)) ((uN (FC me C (30 * ki) (3 * la + z)) (30 * ki + 3 * la + ((z + 1) - 1)) 0) (30 * ki + 3 * (la - faN la (z + 1) me) + ((z + 1) - 1)) + ((FC me C (30 * ki) (3 * la + z)) (30 * ki + 3 * la + ((z + 1) - 1))))))))]) (ws2 := [(h0, .inr (0, [.ref a1])), (a1, .inl (cI, 600, .inl (nA (uN (uN (FC me C (30 * ki) (3 * la + z)) (30 * ki + 3 * la + ((z + 1) - 1)) 0) (30 * ki + 3 * (la - faN la (z + 1) me) + ((z + 1) - 1)) ((uN (FC me C (30 * ki) (3 * la + z)) (30 * ki + 3 * la + ((z + 1) - 1)) 0) (30 * ki + 3 * (la - faN la (z + 1) me) + ((z + 1) - 1)) + ((FC me C (30 * ki) (3 * la + z)) (30 * ki + 3 * la + ((z + 1) - 1))))))))]) hP hD hS hA [0, 1] rfl rfl rfl (va_runV (As := [.int (nI ki), .int (nI (la - faN la (z + 1) me)), .int (nI (z + 1)), .int (nI ((FC me C (30 * ki) (3 * la + z)) (30 * ki + 3 * la + ((z + 1) - 1))))]) (rest := []) ⟨hx, hb, hml, hown, hts⟩ (c_X0_add l D cI cJ cZ h0 a1 (uN (FC me C (30 * ki) (3 * la + z)) (30 * ki + 3 * la + ((z + 1) - 1)) 0) ki (la - faN la (z + 1) me) (z + 1) ((FC me C (30 * ki) (3 * la + z)) (30 * ki + 3 * la + ((z + 1) - 1))) (by omega) (by omega) (by omega) (by omega) H.size) (cwV 4 hts gX0_letFall_X0_add rfl rfl rfl (by decide +kernel) ⟨Nat.le_of_ble_eq_true rfl, Nat.le_of_ble_eq_true rfl⟩) (pvV hT hP hD [0, 1] rfl rfl 0 rfl rfl) rfl rfl hl.1 rfl (lv_room (Nat.le_of_ble_eq_true rfl)) dX0_letFall_71 ⟨Nat.zero_le _, Nat.zero_le _⟩) (fun H locs hP hD hS => ?_)
            refine lv_iinc (v := nI (z + 1 + 1)) (lv' := [(6, .int (nI (z + 1 + 1))), (8, .int (zI (((la) : Int) - ((faN la (z + 1) me : Nat) : Int)))), (7, .int (nI ((FC me C (30 * ki) (3 * la + z)) (30 * ki + 3 * la + ((z + 1) - 1))))), (0, .ref h0), (1, .int (nI ki)), (2, .int (nI me)), (3, .long (FL me C (30 * ki) (3 * la + z))), (5, .int (nI la))]) hx hb dX0_letFall_74 hl (k := 7) rfl (n_inc (z + 1)) (by decide) rfl (fun ls hl => ?_)
            refine lv_goto (tgt := 15) hx hb dX0_letFall_77 (by decide) ?_
            have hwe : ([(h0, .inr (0, [.ref a1])), (a1, .inl (cI, 600, .inl (nA (FC me C (30 * ki) (3 * la + (z + 1))))))] : va_W) = [(h0, .inr (0, [.ref a1])), (a1, .inl (cI, 600, .inl (nA (uN (uN (FC me C (30 * ki) (3 * la + z)) (30 * ki + 3 * la + ((z + 1) - 1)) 0) (30 * ki + 3 * (la - faN la (z + 1) me) + ((z + 1) - 1)) ((uN (FC me C (30 * ki) (3 * la + z)) (30 * ki + 3 * la + ((z + 1) - 1)) 0) (30 * ki + 3 * (la - faN la (z + 1) me) + ((z + 1) - 1)) + ((FC me C (30 * ki) (3 * la + z)) (30 * ki + 3 * la + ((z + 1) - 1))))))))] := (by rw [hC])
            have hle : ([(0, .ref h0), (1, .int (nI ki)), (2, .int (nI me)), (3, .long (FL me C (30 * ki) (3 * la + (z + 1)))), (5, .int (nI la)), (6, .int (nI ((z + 1) + 1)))] : List (Nat × Value)) = [(0, .ref h0), (1, .int (nI ki)), (2, .int (nI me)), (3, .long (FL me C (30 * ki) (3 * la + z))), (5, .int (nI la)), (6, .int (nI (z + 1 + 1)))] := (by rw [hL])
            exact ih (z + 1) (by omega) H locs (by rw [hwe]; exact hP) (by rw [hwe]; exact hD) hS ls (by rw [hle]; exact lv_sub hl [3, 4, 5, 6, 7, 0] rfl)
          · have hfz : la < faN la (z + 1) me := by omega
            have hC := FC_a (me := me) (C := C) (ki := ki) hltla hltz hfz
            have hL := FL_a (me := me) (C := C) (ki := ki) hltla hltz hfz
            refine lv_lload_n hx hb dX0_letFall_50 rfl (lv_at hl 5 rfl) ?_
            refine lv_iload hx hb dX0_letFall_51 (lv_at hl 7 rfl) ?_
            refine lv_iload hx hb dX0_letFall_53 (lv_at hl 1 rfl) ?_
            refine cr_l (wc := []) (w1 := []) (ws2 := [(h0, .inr (0, [.ref a1])), (a1, .inl (cI, 600, .inl (nA (uN (FC me C (30 * ki) (3 * la + z)) (30 * ki + 3 * la + ((z + 1) - 1)) 0))))]) hP hD hS hA [] rfl rfl rfl (va_runSN (As := [.int (nI (z + 1)), .int (nI ((FC me C (30 * ki) (3 * la + z)) (30 * ki + 3 * la + ((z + 1) - 1))))]) (rest := [.long (FL me C (30 * ki) (3 * la + z))]) ⟨hx, hb, hml, hown, hts⟩ (c_X5_waterOf l D cI cJ cZ (z + 1) ((FC me C (30 * ki) (3 * la + z)) (30 * ki + 3 * la + ((z + 1) - 1))) H.size) ⟨va_cnB 2 hts gX0_letFall_X5_waterOf_n25 rfl rfl rfl hT.2.2.2.2.2.2.2.1 (hts (.initialized RX5) (by decide +kernel)) (by decide +kernel) ⟨Nat.le_of_ble_eq_true rfl, Nat.le_of_ble_eq_true rfl⟩, hts (.static yX5_waterOf) (by decide +kernel), trivial⟩ (pvS hT hP hD [] rfl rfl) rfl rfl hl.1 rfl (lv_room (Nat.le_of_ble_eq_true rfl)) dX0_letFall_55 ⟨Nat.zero_le _, Nat.zero_le _⟩) (fun H locs hP hD hS => ?_)
            refine lv_ladd hx hb dX0_letFall_58 ?_
            refine lv_lstore_n (lv' := [(3, .long ((FL me C (30 * ki) (3 * la + z)) + (wtr (z + 1) ((FC me C (30 * ki) (3 * la + z)) (30 * ki + 3 * la + ((z + 1) - 1)))))), (8, .int (zI (((la) : Int) - ((faN la (z + 1) me : Nat) : Int)))), (7, .int (nI ((FC me C (30 * ki) (3 * la + z)) (30 * ki + 3 * la + ((z + 1) - 1))))), (0, .ref h0), (1, .int (nI ki)), (2, .int (nI me)), (5, .int (nI la)), (6, .int (nI (z + 1)))]) hx hb dX0_letFall_59 rfl hl (by decide) rfl (fun ls hl => ?_)
            refine lv_goto (tgt := 74) hx hb dX0_letFall_60 (by decide) ?_
            refine lv_iinc (v := nI (z + 1 + 1)) (lv' := [(6, .int (nI (z + 1 + 1))), (3, .long ((FL me C (30 * ki) (3 * la + z)) + (wtr (z + 1) ((FC me C (30 * ki) (3 * la + z)) (30 * ki + 3 * la + ((z + 1) - 1)))))), (8, .int (zI (((la) : Int) - ((faN la (z + 1) me : Nat) : Int)))), (7, .int (nI ((FC me C (30 * ki) (3 * la + z)) (30 * ki + 3 * la + ((z + 1) - 1))))), (0, .ref h0), (1, .int (nI ki)), (2, .int (nI me)), (5, .int (nI la))]) hx hb dX0_letFall_74 hl (k := 7) rfl (n_inc (z + 1)) (by decide) rfl (fun ls hl => ?_)
            refine lv_goto (tgt := 15) hx hb dX0_letFall_77 (by decide) ?_
            have hwe : ([(h0, .inr (0, [.ref a1])), (a1, .inl (cI, 600, .inl (nA (FC me C (30 * ki) (3 * la + (z + 1))))))] : va_W) = [(h0, .inr (0, [.ref a1])), (a1, .inl (cI, 600, .inl (nA (uN (FC me C (30 * ki) (3 * la + z)) (30 * ki + 3 * la + ((z + 1) - 1)) 0))))] := (by rw [hC])
            have hle : ([(0, .ref h0), (1, .int (nI ki)), (2, .int (nI me)), (3, .long (FL me C (30 * ki) (3 * la + (z + 1)))), (5, .int (nI la)), (6, .int (nI ((z + 1) + 1)))] : List (Nat × Value)) = [(0, .ref h0), (1, .int (nI ki)), (2, .int (nI me)), (3, .long ((FL me C (30 * ki) (3 * la + z)) + (wtr (z + 1) ((FC me C (30 * ki) (3 * la + z)) (30 * ki + 3 * la + ((z + 1) - 1)))))), (5, .int (nI la)), (6, .int (nI (z + 1 + 1)))] := (by rw [hL])
            exact ih (z + 1) (by omega) H locs (by rw [hwe]; exact hP) (by rw [hwe]; exact hD) hS ls (by rw [hle]; exact lv_sub hl [4, 5, 6, 1, 7, 0] rfl)
      have hwe : ([(h0, .inr (0, [.ref a1])), (a1, .inl (cI, 600, .inl (nA (FC me C (30 * ki) (3 * la + 0)))))] : va_W) = [(h0, .inr (0, [.ref a1])), (a1, .inl (cI, 600, .inl (nA (FC me C (30 * ki) (3 * la)))))] := rfl
      have hle : ([(0, .ref h0), (1, .int (nI ki)), (2, .int (nI me)), (3, .long (FL me C (30 * ki) (3 * la + 0))), (5, .int (nI la)), (6, .int (nI (0 + 1)))] : List (Nat × Value)) = [(0, .ref h0), (1, .int (nI ki)), (2, .int (nI me)), (3, .long (FL me C (30 * ki) (3 * la))), (5, .int (nI la)), (6, .int (nI 1))] := rfl
      exact lp15 3 0 (by omega) H locs (by rw [hwe]; exact hP) (by rw [hwe]; exact hD) hS ls (by rw [hle]; exact lv_sub hl [1, 2, 3, 4, 5, 0] rfl)
  have hwe : ([(h0, .inr (0, [.ref a1])), (a1, .inl (cI, 600, .inl (nA (FC me C (30 * ki) (3 * 0)))))] : va_W) = [(h0, .inr (0, [.ref a1])), (a1, .inl (cI, 600, .inl (nA C)))] := rfl
  have hle : ([(0, .ref h0), (1, .int (nI ki)), (2, .int (nI me)), (3, .long (FL me C (30 * ki) (3 * 0))), (5, .int (nI 0))] : List (Nat × Value)) = [(0, .ref h0), (1, .int (nI ki)), (2, .int (nI me)), (3, .long 0), (5, .int (nI 0))] := rfl
  exact lp5 10 0 (by omega) H locs (by rw [hwe]; exact hP) (by rw [hwe]; exact hD) hS ls (by rw [hle]; exact lv_sub hl [2, 3, 4, 1, 0] rfl)
set_option maxHeartbeats 4000000 in
set_option maxRecDepth 100000 in
theorem c_X0_moveFrom_in (l : Launch) (D : va_G) (cI cJ cZ : ClassId) (h0 : Nat) (a1 : Nat) (C : Nat → Nat) (fr : Nat) (to : Nat) (hfr : fr < 20) (hto : to < 20) (sz : Nat) : Met l yX0_moveFrom wsX0_moveFrom ({ frames := 2, cells := 0, slots := 0, locals := 47 } : Room) (va_Pc [.ref h0, .int (nI fr), .int (nI to)] (mPre D cI cJ cZ [(h0, .inr (0, [.ref a1])), (a1, .inl (cI, 600, .inl (nA C)))] sz)) (Ql9 D (va_A [(h0, .inr (0, [.ref a1])), (a1, .inl (cI, 600, .inl (nA C)))] sz) [(h0, .inr (0, [.ref a1])), (a1, .inl (cI, 600, .inl (nA (mvi C fr to 30))))] (0)) 0 0 (va_A [(h0, .inr (0, [.ref a1])), (a1, .inl (cI, 600, .inl (nA C)))] sz) := by
  refine Met.ofW (cc := cX0_moveFrom) (maxL := 8) (ret := (some .long)) (by decide) rfl ?_
  intro p e s m args below meth c s₁ B hml hv
  obtain ⟨hargs, hsz, hP, hT, hD0⟩ := hv
  have hx := B.exec
  have hb := B.bytes
  have hr := B.returns
  have hts := atoms_spec (ws := wsX0_moveFrom) B.pre
  have hown : s.vm.findClass RX0 = some m.cls := findClass_of_methodNamed B.named
  have hlocks := B.notSynchronized
  subst hsz
  have hK := hT.1
  have hD := hD0.self (sz := s.heap.size)
  generalize hAe : va_A [(h0, .inr (0, [.ref a1])), (a1, .inl (cI, 600, .inl (nA C)))] s.heap.size = A at hD ⊢
  have hA : ∀ q : Nat, s.heap.size ≤ q → A q := fun q h => by rw [← hAe]; exact Or.inr h
  have hS : va_S A s.heap s.heap [] := va_S.rf
  obtain ⟨H, hHe⟩ : ∃ H : Heap, H = s.heap := ⟨_, rfl⟩
  have hS : va_S A s.heap H [] := by rw [hHe]; exact va_S.rf
  rw [← hHe] at hP
  suffices K0 : W p l e (headSpec wsX0_moveFrom ({ frames := 2, cells := 0, slots := 0, locals := 47 } : Room)).room s m args below meth c H [] 0 0 (MQ below (Ql9 D A [(h0, .inr (0, [.ref a1])), (a1, .inl (cI, 600, .inl (nA (mvi C fr to 30))))] (0)) args s 0 0 A) (entryFrame m args 8) by rw [hHe] at K0; exact K0
  refine W.eq (g2 := entryFrame m ([.ref h0, .int (nI fr), .int (nI to)] : List Value).toArray 8) (by rw [hargs]) ?_
  have hl := lv_entry ([.ref h0, .int (nI fr), .int (nI to)]) (n := 8) (Nat.le_of_ble_eq_true rfl)
  rw [lg_entry_eq]
  generalize (lg_sl ([.ref h0, .int (nI fr), .int (nI to)]) ++ List.replicate (8 - (lg_sl ([.ref h0, .int (nI fr), .int (nI to)])).length) Slot.unset).toArray = ls at hl ⊢
  have hl : lv_has ls 8 [(0, .ref h0), (1, .int (nI fr)), (2, .int (nI to))] := hl
  generalize ([] : List Loc) = locs at hS ⊢
  refine lv_lconst (v := 0) hx hb dX0_moveFrom_0 (by decide) ?_
  refine lv_lstore_n (lv' := [(3, .long 0), (0, .ref h0), (1, .int (nI fr)), (2, .int (nI to))]) hx hb dX0_moveFrom_1 rfl hl (by decide) rfl (fun ls hl => ?_)
  refine lv_iconst (v := nI 0) hx hb dX0_moveFrom_2 (by decide) ?_
  refine lv_istore (lv' := [(5, .int (nI 0)), (3, .long 0), (0, .ref h0), (1, .int (nI fr)), (2, .int (nI to))]) hx hb dX0_moveFrom_3 hl (by decide) rfl (fun ls hl => ?_)
  have lp5 : ∀ (n la : Nat), la + n = 10 → ∀ (H : Heap) (locs : List Loc), va_P D vwCl [(h0, .inr (0, [.ref a1])), (a1, .inl (cI, 600, .inl (nA (mvi C fr to (3 * la)))))] H → va_D A [(h0, .inr (0, [.ref a1])), (a1, .inl (cI, 600, .inl (nA (mvi C fr to (3 * la)))))] → va_S A s.heap H locs → ∀ (ls : Array Slot), lv_has ls 8 [(0, .ref h0), (1, .int (nI fr)), (2, .int (nI to)), (3, .long 0), (5, .int (nI la))] → W p l e (headSpec wsX0_moveFrom ({ frames := 2, cells := 0, slots := 0, locals := 47 } : Room)).room s m args below meth c H locs 0 0 (MQ below (Ql9 D A [(h0, .inr (0, [.ref a1])), (a1, .inl (cI, 600, .inl (nA (mvi C fr to 30))))] (0)) args s 0 0 A) (F0 m 5 ls []) := by
    intro n
    induction n with
    | zero =>
      intro la hcntla H locs hP hD hS ls hl
      obtain rfl : 10 = la := by omega
      refine lv_iload hx hb dX0_moveFrom_5 (lv_at hl 4 rfl) ?_
      refine lv_bipush (v := nI 10) hx hb dX0_moveFrom_7 (by decide) ?_
      refine ci_ge (tgt := 78) hx hb dX0_moveFrom_9 (by decide) (nT (by omega)) (nT (by omega)) (fun c_9 => ?_) (fun c_9 => by omega)
      refine lv_lload_n hx hb dX0_moveFrom_78 rfl (lv_at hl 3 rfl) ?_
      have hwe : ([(h0, .inr (0, [.ref a1])), (a1, .inl (cI, 600, .inl (nA (mvi C fr to 30))))] : va_W) = [(h0, .inr (0, [.ref a1])), (a1, .inl (cI, 600, .inl (nA (mvi C fr to (3 * 10)))))] := rfl
      have hP : va_P D vwCl [(h0, .inr (0, [.ref a1])), (a1, .inl (cI, 600, .inl (nA (mvi C fr to 30))))] H := by rw [hwe]; exact hP
      have hD : va_D A [(h0, .inr (0, [.ref a1])), (a1, .inl (cI, 600, .inl (nA (mvi C fr to 30))))] := by rw [hwe]; exact hD
      exact fin_l hx hb hr hlocks hP hD hS (rfl) dX0_moveFrom_79
    | succ n ih =>
      intro la hcntla H locs hP hD hS ls hl
      have hltla : la < 10 := by omega
      refine lv_iload hx hb dX0_moveFrom_5 (lv_at hl 4 rfl) ?_
      refine lv_bipush (v := nI 10) hx hb dX0_moveFrom_7 (by decide) ?_
      refine ci_ge (tgt := 78) hx hb dX0_moveFrom_9 (by decide) (nT (by omega)) (nT (by omega)) (fun c_9 => by omega) (fun c_9 => ?_)
      refine lv_iconst (v := nI 1) hx hb dX0_moveFrom_12 (by decide) ?_
      refine lv_istore (lv' := [(6, .int (nI 1)), (0, .ref h0), (1, .int (nI fr)), (2, .int (nI to)), (3, .long 0), (5, .int (nI la))]) hx hb dX0_moveFrom_13 hl (by decide) rfl (fun ls hl => ?_)
      have lp15 : ∀ (n z : Nat), z + n = 3 → ∀ (H : Heap) (locs : List Loc), va_P D vwCl [(h0, .inr (0, [.ref a1])), (a1, .inl (cI, 600, .inl (nA (mvi C fr to (3 * la + z)))))] H → va_D A [(h0, .inr (0, [.ref a1])), (a1, .inl (cI, 600, .inl (nA (mvi C fr to (3 * la + z)))))] → va_S A s.heap H locs → ∀ (ls : Array Slot), lv_has ls 8 [(0, .ref h0), (1, .int (nI fr)), (2, .int (nI to)), (3, .long 0), (5, .int (nI la)), (6, .int (nI (z + 1)))] → W p l e (headSpec wsX0_moveFrom ({ frames := 2, cells := 0, slots := 0, locals := 47 } : Room)).room s m args below meth c H locs 0 0 (MQ below (Ql9 D A [(h0, .inr (0, [.ref a1])), (a1, .inl (cI, 600, .inl (nA (mvi C fr to 30))))] (0)) args s 0 0 A) (F0 m 15 ls []) := by
        intro n
        induction n with
        | zero =>
          intro z hcntz H locs hP hD hS ls hl
          obtain rfl : 3 = z := by omega
          refine lv_iload hx hb dX0_moveFrom_15 (lv_at hl 5 rfl) ?_
          refine lv_iconst (v := nI 3) hx hb dX0_moveFrom_17 (by decide) ?_
          refine ci_gt (tgt := 72) hx hb dX0_moveFrom_18 (by decide) (nT (by omega)) (nT (by omega)) (fun c_18 => ?_) (fun c_18 => by omega)
          refine lv_iinc (v := nI (la + 1)) (lv' := [(5, .int (nI (la + 1))), (0, .ref h0), (1, .int (nI fr)), (2, .int (nI to)), (3, .long 0), (6, .int (nI (3 + 1)))]) hx hb dX0_moveFrom_72 hl (k := 4) rfl (n_inc la) (by decide) rfl (fun ls hl => ?_)
          refine lv_goto (tgt := 5) hx hb dX0_moveFrom_75 (by decide) ?_
          have hwe : ([(h0, .inr (0, [.ref a1])), (a1, .inl (cI, 600, .inl (nA (mvi C fr to (3 * (la + 1))))))] : va_W) = [(h0, .inr (0, [.ref a1])), (a1, .inl (cI, 600, .inl (nA (mvi C fr to (3 * la + 3)))))] := rfl
          exact ih (la + 1) (by omega) H locs (by rw [hwe]; exact hP) (by rw [hwe]; exact hD) hS ls (lv_sub hl [1, 2, 3, 4, 0] rfl)
        | succ n ih =>
          intro z hcntz H locs hP hD hS ls hl
          have hltz : z < 3 := by omega
          refine lv_iload hx hb dX0_moveFrom_15 (lv_at hl 5 rfl) ?_
          refine lv_iconst (v := nI 3) hx hb dX0_moveFrom_17 (by decide) ?_
          refine ci_gt (tgt := 72) hx hb dX0_moveFrom_18 (by decide) (nT (by omega)) (nT (by omega)) (fun c_18 => by omega) (fun c_18 => ?_)
          refine lv_aload_n hx hb dX0_moveFrom_21 rfl (lv_at hl 0 rfl) ?_
          refine lv_iload_n hx hb dX0_moveFrom_22 rfl (lv_at hl 1 rfl) ?_
          refine lv_iload hx hb dX0_moveFrom_23 (lv_at hl 4 rfl) ?_
          refine lv_iload hx hb dX0_moveFrom_25 (lv_at hl 5 rfl) ?_
          refine cr_i (wc := [(h0, .inr (0, [.ref a1])), (a1, .inl (cI, 600, .inl (nA (mvi C fr to (3 * la + z)))))]) (w1 := [(h0, .inr (0, [.ref a1])), (a1, .inl (cI, 600, .inl (nA (uN (mvi C fr to (3 * la + z)) (30 * fr + 3 * la + ((z + 1) - 1)) 0))))]) (ws2 := [(h0, .inr (0, [.ref a1])), (a1, .inl (cI, 600, .inl (nA (uN (mvi C fr to (3 * la + z)) (30 * fr + 3 * la + ((z + 1) - 1)) 0))))]) hP hD hS hA [0, 1] rfl rfl rfl (va_runV (As := [.int (nI fr), .int (nI la), .int (nI (z + 1))]) (rest := []) ⟨hx, hb, hml, hown, hts⟩ (c_X0_takeAll l D cI cJ cZ h0 a1 (mvi C fr to (3 * la + z)) fr la (z + 1) (by omega) (by omega) (by omega) (by omega) H.size) (cwV 3 hts gX0_moveFrom_X0_takeAll rfl rfl rfl (by decide +kernel) ⟨Nat.le_of_ble_eq_true rfl, Nat.le_of_ble_eq_true rfl⟩) (pvV hT hP hD [0, 1] rfl rfl 0 rfl rfl) rfl rfl hl.1 rfl (lv_room (Nat.le_of_ble_eq_true rfl)) dX0_moveFrom_27 ⟨Nat.zero_le _, Nat.zero_le _⟩) (fun H locs hP hD hS => ?_)
          refine lv_istore (lv' := [(7, .int (nI ((mvi C fr to (3 * la + z)) (30 * fr + 3 * la + ((z + 1) - 1))))), (0, .ref h0), (1, .int (nI fr)), (2, .int (nI to)), (3, .long 0), (5, .int (nI la)), (6, .int (nI (z + 1)))]) hx hb dX0_moveFrom_30 hl (by decide) rfl (fun ls hl => ?_)
          refine lv_iload_n hx hb dX0_moveFrom_32 rfl (lv_at hl 3 rfl) ?_
          refine c0_lt (tgt := 42) hx hb dX0_moveFrom_33 (by decide) (nT (by omega)) (fun c_33 => by omega) (fun c_33 => ?_)
          refine lv_iload_n hx hb dX0_moveFrom_36 rfl (lv_at hl 3 rfl) ?_
          refine lv_bipush (v := nI 20) hx hb dX0_moveFrom_37 (by decide) ?_
          refine ci_lt (tgt := 55) hx hb dX0_moveFrom_39 (by decide) (nT (by omega)) (nT (by omega)) (fun c_39 => ?_) (fun c_39 => by omega)
          refine lv_aload_n hx hb dX0_moveFrom_55 rfl (lv_at hl 1 rfl) ?_
          refine lv_iload_n hx hb dX0_moveFrom_56 rfl (lv_at hl 3 rfl) ?_
          refine lv_iload hx hb dX0_moveFrom_57 (lv_at hl 5 rfl) ?_
          refine lv_iload hx hb dX0_moveFrom_59 (lv_at hl 6 rfl) ?_
          refine lv_iload hx hb dX0_moveFrom_61 (lv_at hl 0 rfl) ?_
          refine cr_v (wc := [(h0, .inr (0, [.ref a1])), (a1, .inl (cI, 600, .inl (nA (uN (mvi C fr to (3 * la + z)) (30 * fr + 3 * la + ((z + 1) - 1)) 0))))]) (w1 := [(h0, .inr (0, [.ref a1])), (a1, .inl (cI, 600, .inl (nA (uN (uN (mvi C fr to (3 * la + z)) (30 * fr + 3 * la + ((z + 1) - 1)) 0) (30 * to + 3 * la + ((z + 1) - 1)) ((uN (mvi C fr to (3 * la + z)) (30 * fr + 3 * la + ((z + 1) - 1)) 0) (30 * to + 3 * la + ((z + 1) - 1)) + ((mvi C fr to (3 * la + z)) (30 * fr + 3 * la + ((z + 1) - 1))))))))]) (ws2 := [(h0, .inr (0, [.ref a1])), (a1, .inl (cI, 600, .inl (nA (uN (uN (mvi C fr to (3 * la + z)) (30 * fr + 3 * la + ((z + 1) - 1)) 0) (30 * to + 3 * la + ((z + 1) - 1)) ((uN (mvi C fr to (3 * la + z)) (30 * fr + 3 * la + ((z + 1) - 1)) 0) (30 * to + 3 * la + ((z + 1) - 1)) + ((mvi C fr to (3 * la + z)) (30 * fr + 3 * la + ((z + 1) - 1))))))))]) hP hD hS hA [0, 1] rfl rfl rfl (va_runV (As := [.int (nI to), .int (nI la), .int (nI (z + 1)), .int (nI ((mvi C fr to (3 * la + z)) (30 * fr + 3 * la + ((z + 1) - 1))))]) (rest := []) ⟨hx, hb, hml, hown, hts⟩ (c_X0_add l D cI cJ cZ h0 a1 (uN (mvi C fr to (3 * la + z)) (30 * fr + 3 * la + ((z + 1) - 1)) 0) to la (z + 1) ((mvi C fr to (3 * la + z)) (30 * fr + 3 * la + ((z + 1) - 1))) (by omega) (by omega) (by omega) (by omega) H.size) (cwV 4 hts gX0_moveFrom_X0_add rfl rfl rfl (by decide +kernel) ⟨Nat.le_of_ble_eq_true rfl, Nat.le_of_ble_eq_true rfl⟩) (pvV hT hP hD [0, 1] rfl rfl 0 rfl rfl) rfl rfl hl.1 rfl (lv_room (Nat.le_of_ble_eq_true rfl)) dX0_moveFrom_63 ⟨Nat.zero_le _, Nat.zero_le _⟩) (fun H locs hP hD hS => ?_)
          refine lv_iinc (v := nI (z + 1 + 1)) (lv' := [(6, .int (nI (z + 1 + 1))), (7, .int (nI ((mvi C fr to (3 * la + z)) (30 * fr + 3 * la + ((z + 1) - 1))))), (0, .ref h0), (1, .int (nI fr)), (2, .int (nI to)), (3, .long 0), (5, .int (nI la))]) hx hb dX0_moveFrom_66 hl (k := 6) rfl (n_inc (z + 1)) (by decide) rfl (fun ls hl => ?_)
          refine lv_goto (tgt := 15) hx hb dX0_moveFrom_69 (by decide) ?_
          have hwe : ([(h0, .inr (0, [.ref a1])), (a1, .inl (cI, 600, .inl (nA (mvi C fr to (3 * la + (z + 1))))))] : va_W) = [(h0, .inr (0, [.ref a1])), (a1, .inl (cI, 600, .inl (nA (uN (uN (mvi C fr to (3 * la + z)) (30 * fr + 3 * la + ((z + 1) - 1)) 0) (30 * to + 3 * la + ((z + 1) - 1)) ((uN (mvi C fr to (3 * la + z)) (30 * fr + 3 * la + ((z + 1) - 1)) 0) (30 * to + 3 * la + ((z + 1) - 1)) + ((mvi C fr to (3 * la + z)) (30 * fr + 3 * la + ((z + 1) - 1))))))))] := (by rw [mvi_st])
          have hle : ([(0, .ref h0), (1, .int (nI fr)), (2, .int (nI to)), (3, .long 0), (5, .int (nI la)), (6, .int (nI ((z + 1) + 1)))] : List (Nat × Value)) = [(0, .ref h0), (1, .int (nI fr)), (2, .int (nI to)), (3, .long 0), (5, .int (nI la)), (6, .int (nI (z + 1 + 1)))] := rfl
          exact ih (z + 1) (by omega) H locs (by rw [hwe]; exact hP) (by rw [hwe]; exact hD) hS ls (by rw [hle]; exact lv_sub hl [2, 3, 4, 5, 6, 0] rfl)
      have hwe : ([(h0, .inr (0, [.ref a1])), (a1, .inl (cI, 600, .inl (nA (mvi C fr to (3 * la + 0)))))] : va_W) = [(h0, .inr (0, [.ref a1])), (a1, .inl (cI, 600, .inl (nA (mvi C fr to (3 * la)))))] := rfl
      have hle : ([(0, .ref h0), (1, .int (nI fr)), (2, .int (nI to)), (3, .long 0), (5, .int (nI la)), (6, .int (nI (0 + 1)))] : List (Nat × Value)) = [(0, .ref h0), (1, .int (nI fr)), (2, .int (nI to)), (3, .long 0), (5, .int (nI la)), (6, .int (nI 1))] := rfl
      exact lp15 3 0 (by omega) H locs (by rw [hwe]; exact hP) (by rw [hwe]; exact hD) hS ls (by rw [hle]; exact lv_sub hl [1, 2, 3, 4, 5, 0] rfl)
  have hwe : ([(h0, .inr (0, [.ref a1])), (a1, .inl (cI, 600, .inl (nA (mvi C fr to (3 * 0)))))] : va_W) = [(h0, .inr (0, [.ref a1])), (a1, .inl (cI, 600, .inl (nA C)))] := rfl
  exact lp5 10 0 (by omega) H locs (by rw [hwe]; exact hP) (by rw [hwe]; exact hD) hS ls (lv_sub hl [2, 3, 4, 1, 0] rfl)
set_option maxHeartbeats 4000000 in
set_option maxRecDepth 100000 in
theorem c_X0_moveFrom_out (l : Launch) (D : va_G) (cI cJ cZ : ClassId) (h0 : Nat) (a1 : Nat) (C : Nat → Nat) (fr : Nat) (tz : Int) (hfr : fr < 20) (hto : tz < 0 ∨ 20 ≤ tz) (ht1 : -10 < tz) (ht2 : tz < 100) (sz : Nat) : Met l yX0_moveFrom wsX0_moveFrom ({ frames := 2, cells := 0, slots := 0, locals := 47 } : Room) (va_Pc [.ref h0, .int (nI fr), .int (zI tz)] (mPre D cI cJ cZ [(h0, .inr (0, [.ref a1])), (a1, .inl (cI, 600, .inl (nA C)))] sz)) (Ql9 D (va_A [(h0, .inr (0, [.ref a1])), (a1, .inl (cI, 600, .inl (nA C)))] sz) [(h0, .inr (0, [.ref a1])), (a1, .inl (cI, 600, .inl (nA (mvo C fr 30))))] (mvl C fr 30)) 0 0 (va_A [(h0, .inr (0, [.ref a1])), (a1, .inl (cI, 600, .inl (nA C)))] sz) := by
  refine Met.ofW (cc := cX0_moveFrom) (maxL := 8) (ret := (some .long)) (by decide) rfl ?_
  intro p e s m args below meth c s₁ B hml hv
  obtain ⟨hargs, hsz, hP, hT, hD0⟩ := hv
  have hx := B.exec
  have hb := B.bytes
  have hr := B.returns
  have hts := atoms_spec (ws := wsX0_moveFrom) B.pre
  have hown : s.vm.findClass RX0 = some m.cls := findClass_of_methodNamed B.named
  have hlocks := B.notSynchronized
  subst hsz
  have hK := hT.1
  have hD := hD0.self (sz := s.heap.size)
  generalize hAe : va_A [(h0, .inr (0, [.ref a1])), (a1, .inl (cI, 600, .inl (nA C)))] s.heap.size = A at hD ⊢
  have hA : ∀ q : Nat, s.heap.size ≤ q → A q := fun q h => by rw [← hAe]; exact Or.inr h
  have hS : va_S A s.heap s.heap [] := va_S.rf
  obtain ⟨H, hHe⟩ : ∃ H : Heap, H = s.heap := ⟨_, rfl⟩
  have hS : va_S A s.heap H [] := by rw [hHe]; exact va_S.rf
  rw [← hHe] at hP
  suffices K0 : W p l e (headSpec wsX0_moveFrom ({ frames := 2, cells := 0, slots := 0, locals := 47 } : Room)).room s m args below meth c H [] 0 0 (MQ below (Ql9 D A [(h0, .inr (0, [.ref a1])), (a1, .inl (cI, 600, .inl (nA (mvo C fr 30))))] (mvl C fr 30)) args s 0 0 A) (entryFrame m args 8) by rw [hHe] at K0; exact K0
  refine W.eq (g2 := entryFrame m ([.ref h0, .int (nI fr), .int (zI tz)] : List Value).toArray 8) (by rw [hargs]) ?_
  have hl := lv_entry ([.ref h0, .int (nI fr), .int (zI tz)]) (n := 8) (Nat.le_of_ble_eq_true rfl)
  rw [lg_entry_eq]
  generalize (lg_sl ([.ref h0, .int (nI fr), .int (zI tz)]) ++ List.replicate (8 - (lg_sl ([.ref h0, .int (nI fr), .int (zI tz)])).length) Slot.unset).toArray = ls at hl ⊢
  have hl : lv_has ls 8 [(0, .ref h0), (1, .int (nI fr)), (2, .int (zI tz))] := hl
  generalize ([] : List Loc) = locs at hS ⊢
  refine lv_lconst (v := 0) hx hb dX0_moveFrom_0 (by decide) ?_
  refine lv_lstore_n (lv' := [(3, .long 0), (0, .ref h0), (1, .int (nI fr)), (2, .int (zI tz))]) hx hb dX0_moveFrom_1 rfl hl (by decide) rfl (fun ls hl => ?_)
  refine lv_iconst (v := nI 0) hx hb dX0_moveFrom_2 (by decide) ?_
  refine lv_istore (lv' := [(5, .int (nI 0)), (3, .long 0), (0, .ref h0), (1, .int (nI fr)), (2, .int (zI tz))]) hx hb dX0_moveFrom_3 hl (by decide) rfl (fun ls hl => ?_)
  have lp5 : ∀ (n la : Nat), la + n = 10 → ∀ (H : Heap) (locs : List Loc), va_P D vwCl [(h0, .inr (0, [.ref a1])), (a1, .inl (cI, 600, .inl (nA (mvo C fr (3 * la)))))] H → va_D A [(h0, .inr (0, [.ref a1])), (a1, .inl (cI, 600, .inl (nA (mvo C fr (3 * la)))))] → va_S A s.heap H locs → ∀ (ls : Array Slot), lv_has ls 8 [(0, .ref h0), (1, .int (nI fr)), (2, .int (zI tz)), (3, .long (mvl C fr (3 * la))), (5, .int (nI la))] → W p l e (headSpec wsX0_moveFrom ({ frames := 2, cells := 0, slots := 0, locals := 47 } : Room)).room s m args below meth c H locs 0 0 (MQ below (Ql9 D A [(h0, .inr (0, [.ref a1])), (a1, .inl (cI, 600, .inl (nA (mvo C fr 30))))] (mvl C fr 30)) args s 0 0 A) (F0 m 5 ls []) := by
    intro n
    induction n with
    | zero =>
      intro la hcntla H locs hP hD hS ls hl
      obtain rfl : 10 = la := by omega
      refine lv_iload hx hb dX0_moveFrom_5 (lv_at hl 4 rfl) ?_
      refine lv_bipush (v := nI 10) hx hb dX0_moveFrom_7 (by decide) ?_
      refine ci_ge (tgt := 78) hx hb dX0_moveFrom_9 (by decide) (nT (by omega)) (nT (by omega)) (fun c_9 => ?_) (fun c_9 => by omega)
      refine lv_lload_n hx hb dX0_moveFrom_78 rfl (lv_at hl 3 rfl) ?_
      have hwe : ([(h0, .inr (0, [.ref a1])), (a1, .inl (cI, 600, .inl (nA (mvo C fr 30))))] : va_W) = [(h0, .inr (0, [.ref a1])), (a1, .inl (cI, 600, .inl (nA (mvo C fr (3 * 10)))))] := rfl
      have hP : va_P D vwCl [(h0, .inr (0, [.ref a1])), (a1, .inl (cI, 600, .inl (nA (mvo C fr 30))))] H := by rw [hwe]; exact hP
      have hD : va_D A [(h0, .inr (0, [.ref a1])), (a1, .inl (cI, 600, .inl (nA (mvo C fr 30))))] := by rw [hwe]; exact hD
      exact fin_l hx hb hr hlocks hP hD hS (rfl) dX0_moveFrom_79
    | succ n ih =>
      intro la hcntla H locs hP hD hS ls hl
      have hltla : la < 10 := by omega
      refine lv_iload hx hb dX0_moveFrom_5 (lv_at hl 4 rfl) ?_
      refine lv_bipush (v := nI 10) hx hb dX0_moveFrom_7 (by decide) ?_
      refine ci_ge (tgt := 78) hx hb dX0_moveFrom_9 (by decide) (nT (by omega)) (nT (by omega)) (fun c_9 => by omega) (fun c_9 => ?_)
      refine lv_iconst (v := nI 1) hx hb dX0_moveFrom_12 (by decide) ?_
      refine lv_istore (lv' := [(6, .int (nI 1)), (0, .ref h0), (1, .int (nI fr)), (2, .int (zI tz)), (3, .long (mvl C fr (3 * la))), (5, .int (nI la))]) hx hb dX0_moveFrom_13 hl (by decide) rfl (fun ls hl => ?_)
      have lp15 : ∀ (n z : Nat), z + n = 3 → ∀ (H : Heap) (locs : List Loc), va_P D vwCl [(h0, .inr (0, [.ref a1])), (a1, .inl (cI, 600, .inl (nA (mvo C fr (3 * la + z)))))] H → va_D A [(h0, .inr (0, [.ref a1])), (a1, .inl (cI, 600, .inl (nA (mvo C fr (3 * la + z)))))] → va_S A s.heap H locs → ∀ (ls : Array Slot), lv_has ls 8 [(0, .ref h0), (1, .int (nI fr)), (2, .int (zI tz)), (3, .long (mvl C fr (3 * la + z))), (5, .int (nI la)), (6, .int (nI (z + 1)))] → W p l e (headSpec wsX0_moveFrom ({ frames := 2, cells := 0, slots := 0, locals := 47 } : Room)).room s m args below meth c H locs 0 0 (MQ below (Ql9 D A [(h0, .inr (0, [.ref a1])), (a1, .inl (cI, 600, .inl (nA (mvo C fr 30))))] (mvl C fr 30)) args s 0 0 A) (F0 m 15 ls []) := by
        intro n
        induction n with
        | zero =>
          intro z hcntz H locs hP hD hS ls hl
          obtain rfl : 3 = z := by omega
          refine lv_iload hx hb dX0_moveFrom_15 (lv_at hl 5 rfl) ?_
          refine lv_iconst (v := nI 3) hx hb dX0_moveFrom_17 (by decide) ?_
          refine ci_gt (tgt := 72) hx hb dX0_moveFrom_18 (by decide) (nT (by omega)) (nT (by omega)) (fun c_18 => ?_) (fun c_18 => by omega)
          refine lv_iinc (v := nI (la + 1)) (lv' := [(5, .int (nI (la + 1))), (0, .ref h0), (1, .int (nI fr)), (2, .int (zI tz)), (3, .long (mvl C fr (3 * la + 3))), (6, .int (nI (3 + 1)))]) hx hb dX0_moveFrom_72 hl (k := 4) rfl (n_inc la) (by decide) rfl (fun ls hl => ?_)
          refine lv_goto (tgt := 5) hx hb dX0_moveFrom_75 (by decide) ?_
          have hwe : ([(h0, .inr (0, [.ref a1])), (a1, .inl (cI, 600, .inl (nA (mvo C fr (3 * (la + 1))))))] : va_W) = [(h0, .inr (0, [.ref a1])), (a1, .inl (cI, 600, .inl (nA (mvo C fr (3 * la + 3)))))] := rfl
          have hle : ([(0, .ref h0), (1, .int (nI fr)), (2, .int (zI tz)), (3, .long (mvl C fr (3 * (la + 1)))), (5, .int (nI (la + 1)))] : List (Nat × Value)) = [(0, .ref h0), (1, .int (nI fr)), (2, .int (zI tz)), (3, .long (mvl C fr (3 * la + 3))), (5, .int (nI (la + 1)))] := rfl
          exact ih (la + 1) (by omega) H locs (by rw [hwe]; exact hP) (by rw [hwe]; exact hD) hS ls (by rw [hle]; exact lv_sub hl [1, 2, 3, 4, 0] rfl)
        | succ n ih =>
          intro z hcntz H locs hP hD hS ls hl
          have hltz : z < 3 := by omega
          refine lv_iload hx hb dX0_moveFrom_15 (lv_at hl 5 rfl) ?_
          refine lv_iconst (v := nI 3) hx hb dX0_moveFrom_17 (by decide) ?_
          refine ci_gt (tgt := 72) hx hb dX0_moveFrom_18 (by decide) (nT (by omega)) (nT (by omega)) (fun c_18 => by omega) (fun c_18 => ?_)
          refine lv_aload_n hx hb dX0_moveFrom_21 rfl (lv_at hl 0 rfl) ?_
          refine lv_iload_n hx hb dX0_moveFrom_22 rfl (lv_at hl 1 rfl) ?_
          refine lv_iload hx hb dX0_moveFrom_23 (lv_at hl 4 rfl) ?_
          refine lv_iload hx hb dX0_moveFrom_25 (lv_at hl 5 rfl) ?_
          refine cr_i (wc := [(h0, .inr (0, [.ref a1])), (a1, .inl (cI, 600, .inl (nA (mvo C fr (3 * la + z)))))]) (w1 := [(h0, .inr (0, [.ref a1])), (a1, .inl (cI, 600, .inl (nA (uN (mvo C fr (3 * la + z)) (30 * fr + 3 * la + ((z + 1) - 1)) 0))))]) (ws2 := [(h0, .inr (0, [.ref a1])), (a1, .inl (cI, 600, .inl (nA (uN (mvo C fr (3 * la + z)) (30 * fr + 3 * la + ((z + 1) - 1)) 0))))]) hP hD hS hA [0, 1] rfl rfl rfl (va_runV (As := [.int (nI fr), .int (nI la), .int (nI (z + 1))]) (rest := []) ⟨hx, hb, hml, hown, hts⟩ (c_X0_takeAll l D cI cJ cZ h0 a1 (mvo C fr (3 * la + z)) fr la (z + 1) (by omega) (by omega) (by omega) (by omega) H.size) (cwV 3 hts gX0_moveFrom_X0_takeAll rfl rfl rfl (by decide +kernel) ⟨Nat.le_of_ble_eq_true rfl, Nat.le_of_ble_eq_true rfl⟩) (pvV hT hP hD [0, 1] rfl rfl 0 rfl rfl) rfl rfl hl.1 rfl (lv_room (Nat.le_of_ble_eq_true rfl)) dX0_moveFrom_27 ⟨Nat.zero_le _, Nat.zero_le _⟩) (fun H locs hP hD hS => ?_)
          refine lv_istore (lv' := [(7, .int (nI ((mvo C fr (3 * la + z)) (30 * fr + 3 * la + ((z + 1) - 1))))), (0, .ref h0), (1, .int (nI fr)), (2, .int (zI tz)), (3, .long (mvl C fr (3 * la + z))), (5, .int (nI la)), (6, .int (nI (z + 1)))]) hx hb dX0_moveFrom_30 hl (by decide) rfl (fun ls hl => ?_)
          refine lv_iload_n hx hb dX0_moveFrom_32 rfl (lv_at hl 3 rfl) ?_
          refine c0_lt (tgt := 42) hx hb dX0_moveFrom_33 (by decide) (zT (by omega) (by omega)) (fun c_33 => ?_) (fun c_33 => ?_)
          · refine lv_lload_n hx hb dX0_moveFrom_42 rfl (lv_at hl 4 rfl) ?_
            refine lv_iload hx hb dX0_moveFrom_43 (lv_at hl 6 rfl) ?_
            refine lv_iload hx hb dX0_moveFrom_45 (lv_at hl 0 rfl) ?_
            refine cr_l (wc := []) (w1 := []) (ws2 := [(h0, .inr (0, [.ref a1])), (a1, .inl (cI, 600, .inl (nA (uN (mvo C fr (3 * la + z)) (30 * fr + 3 * la + ((z + 1) - 1)) 0))))]) hP hD hS hA [] rfl rfl rfl (va_runSN (As := [.int (nI (z + 1)), .int (nI ((mvo C fr (3 * la + z)) (30 * fr + 3 * la + ((z + 1) - 1))))]) (rest := [.long (mvl C fr (3 * la + z))]) ⟨hx, hb, hml, hown, hts⟩ (c_X5_waterOf l D cI cJ cZ (z + 1) ((mvo C fr (3 * la + z)) (30 * fr + 3 * la + ((z + 1) - 1))) H.size) ⟨va_cnB 2 hts gX0_moveFrom_X5_waterOf_n25 rfl rfl rfl hT.2.2.2.2.2.2.2.1 (hts (.initialized RX5) (by decide +kernel)) (by decide +kernel) ⟨Nat.le_of_ble_eq_true rfl, Nat.le_of_ble_eq_true rfl⟩, hts (.static yX5_waterOf) (by decide +kernel), trivial⟩ (pvS hT hP hD [] rfl rfl) rfl rfl hl.1 rfl (lv_room (Nat.le_of_ble_eq_true rfl)) dX0_moveFrom_47 ⟨Nat.zero_le _, Nat.zero_le _⟩) (fun H locs hP hD hS => ?_)
            refine lv_ladd hx hb dX0_moveFrom_50 ?_
            refine lv_lstore_n (lv' := [(3, .long ((mvl C fr (3 * la + z)) + (wtr (z + 1) ((mvo C fr (3 * la + z)) (30 * fr + 3 * la + ((z + 1) - 1)))))), (7, .int (nI ((mvo C fr (3 * la + z)) (30 * fr + 3 * la + ((z + 1) - 1))))), (0, .ref h0), (1, .int (nI fr)), (2, .int (zI tz)), (5, .int (nI la)), (6, .int (nI (z + 1)))]) hx hb dX0_moveFrom_51 rfl hl (by decide) rfl (fun ls hl => ?_)
            refine lv_goto (tgt := 66) hx hb dX0_moveFrom_52 (by decide) ?_
            refine lv_iinc (v := nI (z + 1 + 1)) (lv' := [(6, .int (nI (z + 1 + 1))), (3, .long ((mvl C fr (3 * la + z)) + (wtr (z + 1) ((mvo C fr (3 * la + z)) (30 * fr + 3 * la + ((z + 1) - 1)))))), (7, .int (nI ((mvo C fr (3 * la + z)) (30 * fr + 3 * la + ((z + 1) - 1))))), (0, .ref h0), (1, .int (nI fr)), (2, .int (zI tz)), (5, .int (nI la))]) hx hb dX0_moveFrom_66 hl (k := 6) rfl (n_inc (z + 1)) (by decide) rfl (fun ls hl => ?_)
            refine lv_goto (tgt := 15) hx hb dX0_moveFrom_69 (by decide) ?_
            have hwe : ([(h0, .inr (0, [.ref a1])), (a1, .inl (cI, 600, .inl (nA (mvo C fr (3 * la + (z + 1))))))] : va_W) = [(h0, .inr (0, [.ref a1])), (a1, .inl (cI, 600, .inl (nA (uN (mvo C fr (3 * la + z)) (30 * fr + 3 * la + ((z + 1) - 1)) 0))))] := (by rw [mvo_st])
            have hle : ([(0, .ref h0), (1, .int (nI fr)), (2, .int (zI tz)), (3, .long (mvl C fr (3 * la + (z + 1)))), (5, .int (nI la)), (6, .int (nI ((z + 1) + 1)))] : List (Nat × Value)) = [(0, .ref h0), (1, .int (nI fr)), (2, .int (zI tz)), (3, .long ((mvl C fr (3 * la + z)) + (wtr (z + 1) ((mvo C fr (3 * la + z)) (30 * fr + 3 * la + ((z + 1) - 1)))))), (5, .int (nI la)), (6, .int (nI (z + 1 + 1)))] := (by rw [mvl_st hltz])
            exact ih (z + 1) (by omega) H locs (by rw [hwe]; exact hP) (by rw [hwe]; exact hD) hS ls (by rw [hle]; exact lv_sub hl [3, 4, 5, 1, 6, 0] rfl)
          · refine lv_iload_n hx hb dX0_moveFrom_36 rfl (lv_at hl 3 rfl) ?_
            refine lv_bipush (v := nI 20) hx hb dX0_moveFrom_37 (by decide) ?_
            refine ci_lt (tgt := 55) hx hb dX0_moveFrom_39 (by decide) (zT (by omega) (by omega)) (nT (by omega)) (fun c_39 => by omega) (fun c_39 => ?_)
            refine lv_lload_n hx hb dX0_moveFrom_42 rfl (lv_at hl 4 rfl) ?_
            refine lv_iload hx hb dX0_moveFrom_43 (lv_at hl 6 rfl) ?_
            refine lv_iload hx hb dX0_moveFrom_45 (lv_at hl 0 rfl) ?_
            refine cr_l (wc := []) (w1 := []) (ws2 := [(h0, .inr (0, [.ref a1])), (a1, .inl (cI, 600, .inl (nA (uN (mvo C fr (3 * la + z)) (30 * fr + 3 * la + ((z + 1) - 1)) 0))))]) hP hD hS hA [] rfl rfl rfl (va_runSN (As := [.int (nI (z + 1)), .int (nI ((mvo C fr (3 * la + z)) (30 * fr + 3 * la + ((z + 1) - 1))))]) (rest := [.long (mvl C fr (3 * la + z))]) ⟨hx, hb, hml, hown, hts⟩ (c_X5_waterOf l D cI cJ cZ (z + 1) ((mvo C fr (3 * la + z)) (30 * fr + 3 * la + ((z + 1) - 1))) H.size) ⟨va_cnB 2 hts gX0_moveFrom_X5_waterOf_n25 rfl rfl rfl hT.2.2.2.2.2.2.2.1 (hts (.initialized RX5) (by decide +kernel)) (by decide +kernel) ⟨Nat.le_of_ble_eq_true rfl, Nat.le_of_ble_eq_true rfl⟩, hts (.static yX5_waterOf) (by decide +kernel), trivial⟩ (pvS hT hP hD [] rfl rfl) rfl rfl hl.1 rfl (lv_room (Nat.le_of_ble_eq_true rfl)) dX0_moveFrom_47 ⟨Nat.zero_le _, Nat.zero_le _⟩) (fun H locs hP hD hS => ?_)
            refine lv_ladd hx hb dX0_moveFrom_50 ?_
            refine lv_lstore_n (lv' := [(3, .long ((mvl C fr (3 * la + z)) + (wtr (z + 1) ((mvo C fr (3 * la + z)) (30 * fr + 3 * la + ((z + 1) - 1)))))), (7, .int (nI ((mvo C fr (3 * la + z)) (30 * fr + 3 * la + ((z + 1) - 1))))), (0, .ref h0), (1, .int (nI fr)), (2, .int (zI tz)), (5, .int (nI la)), (6, .int (nI (z + 1)))]) hx hb dX0_moveFrom_51 rfl hl (by decide) rfl (fun ls hl => ?_)
            refine lv_goto (tgt := 66) hx hb dX0_moveFrom_52 (by decide) ?_
            refine lv_iinc (v := nI (z + 1 + 1)) (lv' := [(6, .int (nI (z + 1 + 1))), (3, .long ((mvl C fr (3 * la + z)) + (wtr (z + 1) ((mvo C fr (3 * la + z)) (30 * fr + 3 * la + ((z + 1) - 1)))))), (7, .int (nI ((mvo C fr (3 * la + z)) (30 * fr + 3 * la + ((z + 1) - 1))))), (0, .ref h0), (1, .int (nI fr)), (2, .int (zI tz)), (5, .int (nI la))]) hx hb dX0_moveFrom_66 hl (k := 6) rfl (n_inc (z + 1)) (by decide) rfl (fun ls hl => ?_)
            refine lv_goto (tgt := 15) hx hb dX0_moveFrom_69 (by decide) ?_
            have hwe : ([(h0, .inr (0, [.ref a1])), (a1, .inl (cI, 600, .inl (nA (mvo C fr (3 * la + (z + 1))))))] : va_W) = [(h0, .inr (0, [.ref a1])), (a1, .inl (cI, 600, .inl (nA (uN (mvo C fr (3 * la + z)) (30 * fr + 3 * la + ((z + 1) - 1)) 0))))] := (by rw [mvo_st])
            have hle : ([(0, .ref h0), (1, .int (nI fr)), (2, .int (zI tz)), (3, .long (mvl C fr (3 * la + (z + 1)))), (5, .int (nI la)), (6, .int (nI ((z + 1) + 1)))] : List (Nat × Value)) = [(0, .ref h0), (1, .int (nI fr)), (2, .int (zI tz)), (3, .long ((mvl C fr (3 * la + z)) + (wtr (z + 1) ((mvo C fr (3 * la + z)) (30 * fr + 3 * la + ((z + 1) - 1)))))), (5, .int (nI la)), (6, .int (nI (z + 1 + 1)))] := (by rw [mvl_st hltz])
            exact ih (z + 1) (by omega) H locs (by rw [hwe]; exact hP) (by rw [hwe]; exact hD) hS ls (by rw [hle]; exact lv_sub hl [3, 4, 5, 1, 6, 0] rfl)
      have hwe : ([(h0, .inr (0, [.ref a1])), (a1, .inl (cI, 600, .inl (nA (mvo C fr (3 * la + 0)))))] : va_W) = [(h0, .inr (0, [.ref a1])), (a1, .inl (cI, 600, .inl (nA (mvo C fr (3 * la)))))] := rfl
      have hle : ([(0, .ref h0), (1, .int (nI fr)), (2, .int (zI tz)), (3, .long (mvl C fr (3 * la + 0))), (5, .int (nI la)), (6, .int (nI (0 + 1)))] : List (Nat × Value)) = [(0, .ref h0), (1, .int (nI fr)), (2, .int (zI tz)), (3, .long (mvl C fr (3 * la))), (5, .int (nI la)), (6, .int (nI 1))] := rfl
      exact lp15 3 0 (by omega) H locs (by rw [hwe]; exact hP) (by rw [hwe]; exact hD) hS ls (by rw [hle]; exact lv_sub hl [1, 2, 3, 4, 5, 0] rfl)
  have hwe : ([(h0, .inr (0, [.ref a1])), (a1, .inl (cI, 600, .inl (nA (mvo C fr (3 * 0)))))] : va_W) = [(h0, .inr (0, [.ref a1])), (a1, .inl (cI, 600, .inl (nA C)))] := rfl
  have hle : ([(0, .ref h0), (1, .int (nI fr)), (2, .int (zI tz)), (3, .long (mvl C fr (3 * 0))), (5, .int (nI 0))] : List (Nat × Value)) = [(0, .ref h0), (1, .int (nI fr)), (2, .int (zI tz)), (3, .long 0), (5, .int (nI 0))] := rfl
  exact lp5 10 0 (by omega) H locs (by rw [hwe]; exact hP) (by rw [hwe]; exact hD) hS ls (by rw [hle]; exact lv_sub hl [2, 3, 4, 1, 0] rfl)
set_option maxHeartbeats 4000000 in
set_option maxRecDepth 100000 in
theorem c_X0_moveAll_up (l : Launch) (D : va_G) (cI cJ cZ : ClassId) (h0 : Nat) (a1 : Nat) (C : Nat → Nat) (sz : Nat) : Met l yX0_moveAll wsX0_moveAll ({ frames := 3, cells := 0, slots := 0, locals := 74 } : Room) (va_Pc [.ref h0, .int (zI 1)] (mPre D cI cJ cZ [(h0, .inr (0, [.ref a1])), (a1, .inl (cI, 600, .inl (nA C)))] sz)) (Ql9 D (va_A [(h0, .inr (0, [.ref a1])), (a1, .inl (cI, 600, .inl (nA C)))] sz) [(h0, .inr (0, [.ref a1])), (a1, .inl (cI, 600, .inl (nA (mU C 20))))] (mUl C 20)) 0 0 (va_A [(h0, .inr (0, [.ref a1])), (a1, .inl (cI, 600, .inl (nA C)))] sz) := by
  refine Met.ofW (cc := cX0_moveAll) (maxL := 6) (ret := (some .long)) (by decide) rfl ?_
  intro p e s m args below meth c s₁ B hml hv
  obtain ⟨hargs, hsz, hP, hT, hD0⟩ := hv
  have hx := B.exec
  have hb := B.bytes
  have hr := B.returns
  have hts := atoms_spec (ws := wsX0_moveAll) B.pre
  have hown : s.vm.findClass RX0 = some m.cls := findClass_of_methodNamed B.named
  have hlocks := B.notSynchronized
  subst hsz
  have hK := hT.1
  have hD := hD0.self (sz := s.heap.size)
  generalize hAe : va_A [(h0, .inr (0, [.ref a1])), (a1, .inl (cI, 600, .inl (nA C)))] s.heap.size = A at hD ⊢
  have hA : ∀ q : Nat, s.heap.size ≤ q → A q := fun q h => by rw [← hAe]; exact Or.inr h
  have hS : va_S A s.heap s.heap [] := va_S.rf
  obtain ⟨H, hHe⟩ : ∃ H : Heap, H = s.heap := ⟨_, rfl⟩
  have hS : va_S A s.heap H [] := by rw [hHe]; exact va_S.rf
  rw [← hHe] at hP
  suffices K0 : W p l e (headSpec wsX0_moveAll ({ frames := 3, cells := 0, slots := 0, locals := 74 } : Room)).room s m args below meth c H [] 0 0 (MQ below (Ql9 D A [(h0, .inr (0, [.ref a1])), (a1, .inl (cI, 600, .inl (nA (mU C 20))))] (mUl C 20)) args s 0 0 A) (entryFrame m args 6) by rw [hHe] at K0; exact K0
  refine W.eq (g2 := entryFrame m ([.ref h0, .int (zI 1)] : List Value).toArray 6) (by rw [hargs]) ?_
  have hl := lv_entry ([.ref h0, .int (zI 1)]) (n := 6) (Nat.le_of_ble_eq_true rfl)
  rw [lg_entry_eq]
  generalize (lg_sl ([.ref h0, .int (zI 1)]) ++ List.replicate (6 - (lg_sl ([.ref h0, .int (zI 1)])).length) Slot.unset).toArray = ls at hl ⊢
  have hl : lv_has ls 6 [(0, .ref h0), (1, .int (zI 1))] := hl
  generalize ([] : List Loc) = locs at hS ⊢
  refine lv_lconst (v := 0) hx hb dX0_moveAll_0 (by decide) ?_
  refine lv_lstore_n (lv' := [(2, .long 0), (0, .ref h0), (1, .int (zI 1))]) hx hb dX0_moveAll_1 rfl hl (by decide) rfl (fun ls hl => ?_)
  refine lv_iconst (v := nI 0) hx hb dX0_moveAll_2 (by decide) ?_
  refine lv_istore (lv' := [(4, .int (nI 0)), (2, .long 0), (0, .ref h0), (1, .int (zI 1))]) hx hb dX0_moveAll_3 hl (by decide) rfl (fun ls hl => ?_)
  have lp5 : ∀ (n i : Nat), i + n = 20 → ∀ (H : Heap) (locs : List Loc), va_P D vwCl [(h0, .inr (0, [.ref a1])), (a1, .inl (cI, 600, .inl (nA (mU C i))))] H → va_D A [(h0, .inr (0, [.ref a1])), (a1, .inl (cI, 600, .inl (nA (mU C i))))] → va_S A s.heap H locs → ∀ (ls : Array Slot), lv_has ls 6 [(0, .ref h0), (1, .int (zI 1)), (2, .long (mUl C i)), (4, .int (nI i))] → W p l e (headSpec wsX0_moveAll ({ frames := 3, cells := 0, slots := 0, locals := 74 } : Room)).room s m args below meth c H locs 0 0 (MQ below (Ql9 D A [(h0, .inr (0, [.ref a1])), (a1, .inl (cI, 600, .inl (nA (mU C 20))))] (mUl C 20)) args s 0 0 A) (F0 m 5 ls []) := by
    intro n
    induction n with
    | zero =>
      intro i hcnti H locs hP hD hS ls hl
      obtain rfl : 20 = i := by omega
      refine lv_iload hx hb dX0_moveAll_5 (lv_at hl 3 rfl) ?_
      refine lv_bipush (v := nI 20) hx hb dX0_moveAll_7 (by decide) ?_
      refine ci_ge (tgt := 47) hx hb dX0_moveAll_9 (by decide) (nT (by omega)) (nT (by omega)) (fun c_9 => ?_) (fun c_9 => by omega)
      refine lv_lload_n hx hb dX0_moveAll_47 rfl (lv_at hl 2 rfl) ?_
      exact fin_l hx hb hr hlocks hP hD hS (rfl) dX0_moveAll_48
    | succ n ih =>
      intro i hcnti H locs hP hD hS ls hl
      have hlti : i < 20 := by omega
      refine lv_iload hx hb dX0_moveAll_5 (lv_at hl 3 rfl) ?_
      refine lv_bipush (v := nI 20) hx hb dX0_moveAll_7 (by decide) ?_
      refine ci_ge (tgt := 47) hx hb dX0_moveAll_9 (by decide) (nT (by omega)) (nT (by omega)) (fun c_9 => by omega) (fun c_9 => ?_)
      refine lv_iload_n hx hb dX0_moveAll_12 rfl (lv_at hl 1 rfl) ?_
      refine c0_le (tgt := 24) hx hb dX0_moveAll_13 (by decide) (zT (by omega) (by omega)) (fun c_13 => by omega) (fun c_13 => ?_)
      refine lv_bipush (v := nI 19) hx hb dX0_moveAll_16 (by decide) ?_
      refine lv_iload hx hb dX0_moveAll_18 (lv_at hl 3 rfl) ?_
      refine lv_isub hx hb dX0_moveAll_20 ?_
      refine tp_i (pk_sub (by omega)) ?_
      refine lv_goto (tgt := 26) hx hb dX0_moveAll_21 (by decide) ?_
      refine lv_istore (lv' := [(5, .int (nI (19 - i))), (0, .ref h0), (1, .int (zI 1)), (2, .long (mUl C i)), (4, .int (nI i))]) hx hb dX0_moveAll_26 hl (by decide) rfl (fun ls hl => ?_)
      refine lv_lload_n hx hb dX0_moveAll_28 rfl (lv_at hl 3 rfl) ?_
      refine lv_aload_n hx hb dX0_moveAll_29 rfl (lv_at hl 1 rfl) ?_
      refine lv_iload hx hb dX0_moveAll_30 (lv_at hl 0 rfl) ?_
      refine lv_iload hx hb dX0_moveAll_32 (lv_at hl 0 rfl) ?_
      refine lv_iload_n hx hb dX0_moveAll_34 rfl (lv_at hl 2 rfl) ?_
      rcases Nat.decEq i 0 with hz | hz
      · have hi1 : mU C (i + 1) = mvi (mU C i) (19 - i) (19 - i + 1) 30 := if_neg hz
        have hi2 : mUl C (i + 1) = mUl C i + 0 := by show mUl C i + (if i = 0 then mvl (mU C i) (19 - i) 30 else 0) = _; rw [if_neg hz]
        refine lv_iadd hx hb dX0_moveAll_35 ?_
        refine tp_i (nz_add _ _) ?_
        refine tp_i (show (zI (((19 - i : Nat) : Int) + 1) : Int32) = nI (19 - i + 1) from z_n (by omega)) ?_
        refine cr_l (wc := [(h0, .inr (0, [.ref a1])), (a1, .inl (cI, 600, .inl (nA (mU C i))))]) (w1 := [(h0, .inr (0, [.ref a1])), (a1, .inl (cI, 600, .inl (nA (mvi (mU C i) (19 - i) (19 - i + 1) 30))))]) (ws2 := [(h0, .inr (0, [.ref a1])), (a1, .inl (cI, 600, .inl (nA (mvi (mU C i) (19 - i) (19 - i + 1) 30))))]) hP hD hS hA [0, 1] rfl rfl rfl (va_runV (As := [.int (nI (19 - i)), .int (nI (19 - i + 1))]) (rest := [.long (mUl C i)]) ⟨hx, hb, hml, hown, hts⟩ (c_X0_moveFrom_in l D cI cJ cZ h0 a1 (mU C i) (19 - i) (19 - i + 1) (by omega) (by omega) H.size) (cwV 2 hts gX0_moveAll_X0_moveFrom rfl rfl rfl (by decide +kernel) ⟨Nat.le_of_ble_eq_true rfl, Nat.le_of_ble_eq_true rfl⟩) (pvV hT hP hD [0, 1] rfl rfl 0 rfl rfl) rfl rfl hl.1 rfl (lv_room (Nat.le_of_ble_eq_true rfl)) dX0_moveAll_36 ⟨Nat.zero_le _, Nat.zero_le _⟩) (fun H locs hP hD hS => ?_)
        refine lv_ladd hx hb dX0_moveAll_39 ?_
        refine lv_lstore_n (lv' := [(2, .long ((mUl C i) + 0)), (5, .int (nI (19 - i))), (0, .ref h0), (1, .int (zI 1)), (4, .int (nI i))]) hx hb dX0_moveAll_40 rfl hl (by decide) rfl (fun ls hl => ?_)
        refine lv_iinc (v := nI (i + 1)) (lv' := [(4, .int (nI (i + 1))), (2, .long ((mUl C i) + 0)), (5, .int (nI (19 - i))), (0, .ref h0), (1, .int (zI 1))]) hx hb dX0_moveAll_41 hl (k := 4) rfl (n_inc i) (by decide) rfl (fun ls hl => ?_)
        refine lv_goto (tgt := 5) hx hb dX0_moveAll_44 (by decide) ?_
        have hwe : ([(h0, .inr (0, [.ref a1])), (a1, .inl (cI, 600, .inl (nA (mU C (i + 1)))))] : va_W) = [(h0, .inr (0, [.ref a1])), (a1, .inl (cI, 600, .inl (nA (mvi (mU C i) (19 - i) (19 - i + 1) 30))))] := (by rw [hi1])
        have hle : ([(0, .ref h0), (1, .int (zI 1)), (2, .long (mUl C (i + 1))), (4, .int (nI (i + 1)))] : List (Nat × Value)) = [(0, .ref h0), (1, .int (zI 1)), (2, .long ((mUl C i) + 0)), (4, .int (nI (i + 1)))] := (by rw [hi2])
        exact ih (i + 1) (by omega) H locs (by rw [hwe]; exact hP) (by rw [hwe]; exact hD) hS ls (by rw [hle]; exact lv_sub hl [3, 4, 1, 0] rfl)
      · have hi1 : mU C (i + 1) = mvo (mU C i) (19 - i) 30 := if_pos hz
        have hi2 : mUl C (i + 1) = mUl C i + mvl (mU C i) (19 - i) 30 := by show mUl C i + (if i = 0 then mvl (mU C i) (19 - i) 30 else 0) = _; rw [if_pos hz]
        refine lv_iadd hx hb dX0_moveAll_35 ?_
        refine tp_i (nz_add _ _) ?_
        refine cr_l (wc := [(h0, .inr (0, [.ref a1])), (a1, .inl (cI, 600, .inl (nA (mU C i))))]) (w1 := [(h0, .inr (0, [.ref a1])), (a1, .inl (cI, 600, .inl (nA (mvo (mU C i) (19 - i) 30))))]) (ws2 := [(h0, .inr (0, [.ref a1])), (a1, .inl (cI, 600, .inl (nA (mvo (mU C i) (19 - i) 30))))]) hP hD hS hA [0, 1] rfl rfl rfl (va_runV (As := [.int (nI (19 - i)), .int (zI (((19 - i : Nat) : Int) + 1))]) (rest := [.long (mUl C i)]) ⟨hx, hb, hml, hown, hts⟩ (c_X0_moveFrom_out l D cI cJ cZ h0 a1 (mU C i) (19 - i) (((19 - i : Nat) : Int) + 1) (by omega) (by omega) (by omega) (by omega) H.size) (cwV 2 hts gX0_moveAll_X0_moveFrom rfl rfl rfl (by decide +kernel) ⟨Nat.le_of_ble_eq_true rfl, Nat.le_of_ble_eq_true rfl⟩) (pvV hT hP hD [0, 1] rfl rfl 0 rfl rfl) rfl rfl hl.1 rfl (lv_room (Nat.le_of_ble_eq_true rfl)) dX0_moveAll_36 ⟨Nat.zero_le _, Nat.zero_le _⟩) (fun H locs hP hD hS => ?_)
        refine lv_ladd hx hb dX0_moveAll_39 ?_
        refine lv_lstore_n (lv' := [(2, .long ((mUl C i) + (mvl (mU C i) (19 - i) 30))), (5, .int (nI (19 - i))), (0, .ref h0), (1, .int (zI 1)), (4, .int (nI i))]) hx hb dX0_moveAll_40 rfl hl (by decide) rfl (fun ls hl => ?_)
        refine lv_iinc (v := nI (i + 1)) (lv' := [(4, .int (nI (i + 1))), (2, .long ((mUl C i) + (mvl (mU C i) (19 - i) 30))), (5, .int (nI (19 - i))), (0, .ref h0), (1, .int (zI 1))]) hx hb dX0_moveAll_41 hl (k := 4) rfl (n_inc i) (by decide) rfl (fun ls hl => ?_)
        refine lv_goto (tgt := 5) hx hb dX0_moveAll_44 (by decide) ?_
        have hwe : ([(h0, .inr (0, [.ref a1])), (a1, .inl (cI, 600, .inl (nA (mU C (i + 1)))))] : va_W) = [(h0, .inr (0, [.ref a1])), (a1, .inl (cI, 600, .inl (nA (mvo (mU C i) (19 - i) 30))))] := (by rw [hi1])
        have hle : ([(0, .ref h0), (1, .int (zI 1)), (2, .long (mUl C (i + 1))), (4, .int (nI (i + 1)))] : List (Nat × Value)) = [(0, .ref h0), (1, .int (zI 1)), (2, .long ((mUl C i) + (mvl (mU C i) (19 - i) 30))), (4, .int (nI (i + 1)))] := (by rw [hi2])
        exact ih (i + 1) (by omega) H locs (by rw [hwe]; exact hP) (by rw [hwe]; exact hD) hS ls (by rw [hle]; exact lv_sub hl [3, 4, 1, 0] rfl)
  have hwe : ([(h0, .inr (0, [.ref a1])), (a1, .inl (cI, 600, .inl (nA (mU C 0))))] : va_W) = [(h0, .inr (0, [.ref a1])), (a1, .inl (cI, 600, .inl (nA C)))] := rfl
  have hle : ([(0, .ref h0), (1, .int (zI 1)), (2, .long (mUl C 0)), (4, .int (nI 0))] : List (Nat × Value)) = [(0, .ref h0), (1, .int (zI 1)), (2, .long 0), (4, .int (nI 0))] := rfl
  exact lp5 20 0 (by omega) H locs (by rw [hwe]; exact hP) (by rw [hwe]; exact hD) hS ls (by rw [hle]; exact lv_sub hl [2, 3, 1, 0] rfl)
set_option maxHeartbeats 4000000 in
set_option maxRecDepth 100000 in
theorem c_X0_moveAll_down (l : Launch) (D : va_G) (cI cJ cZ : ClassId) (h0 : Nat) (a1 : Nat) (C : Nat → Nat) (sz : Nat) : Met l yX0_moveAll wsX0_moveAll ({ frames := 3, cells := 0, slots := 0, locals := 74 } : Room) (va_Pc [.ref h0, .int (zI (-1))] (mPre D cI cJ cZ [(h0, .inr (0, [.ref a1])), (a1, .inl (cI, 600, .inl (nA C)))] sz)) (Ql9 D (va_A [(h0, .inr (0, [.ref a1])), (a1, .inl (cI, 600, .inl (nA C)))] sz) [(h0, .inr (0, [.ref a1])), (a1, .inl (cI, 600, .inl (nA (mW C 20))))] (mWl C 20)) 0 0 (va_A [(h0, .inr (0, [.ref a1])), (a1, .inl (cI, 600, .inl (nA C)))] sz) := by
  refine Met.ofW (cc := cX0_moveAll) (maxL := 6) (ret := (some .long)) (by decide) rfl ?_
  intro p e s m args below meth c s₁ B hml hv
  obtain ⟨hargs, hsz, hP, hT, hD0⟩ := hv
  have hx := B.exec
  have hb := B.bytes
  have hr := B.returns
  have hts := atoms_spec (ws := wsX0_moveAll) B.pre
  have hown : s.vm.findClass RX0 = some m.cls := findClass_of_methodNamed B.named
  have hlocks := B.notSynchronized
  subst hsz
  have hK := hT.1
  have hD := hD0.self (sz := s.heap.size)
  generalize hAe : va_A [(h0, .inr (0, [.ref a1])), (a1, .inl (cI, 600, .inl (nA C)))] s.heap.size = A at hD ⊢
  have hA : ∀ q : Nat, s.heap.size ≤ q → A q := fun q h => by rw [← hAe]; exact Or.inr h
  have hS : va_S A s.heap s.heap [] := va_S.rf
  obtain ⟨H, hHe⟩ : ∃ H : Heap, H = s.heap := ⟨_, rfl⟩
  have hS : va_S A s.heap H [] := by rw [hHe]; exact va_S.rf
  rw [← hHe] at hP
  suffices K0 : W p l e (headSpec wsX0_moveAll ({ frames := 3, cells := 0, slots := 0, locals := 74 } : Room)).room s m args below meth c H [] 0 0 (MQ below (Ql9 D A [(h0, .inr (0, [.ref a1])), (a1, .inl (cI, 600, .inl (nA (mW C 20))))] (mWl C 20)) args s 0 0 A) (entryFrame m args 6) by rw [hHe] at K0; exact K0
  refine W.eq (g2 := entryFrame m ([.ref h0, .int (zI (-1))] : List Value).toArray 6) (by rw [hargs]) ?_
  have hl := lv_entry ([.ref h0, .int (zI (-1))]) (n := 6) (Nat.le_of_ble_eq_true rfl)
  rw [lg_entry_eq]
  generalize (lg_sl ([.ref h0, .int (zI (-1))]) ++ List.replicate (6 - (lg_sl ([.ref h0, .int (zI (-1))])).length) Slot.unset).toArray = ls at hl ⊢
  have hl : lv_has ls 6 [(0, .ref h0), (1, .int (zI (-1)))] := hl
  generalize ([] : List Loc) = locs at hS ⊢
  refine lv_lconst (v := 0) hx hb dX0_moveAll_0 (by decide) ?_
  refine lv_lstore_n (lv' := [(2, .long 0), (0, .ref h0), (1, .int (zI (-1)))]) hx hb dX0_moveAll_1 rfl hl (by decide) rfl (fun ls hl => ?_)
  refine lv_iconst (v := nI 0) hx hb dX0_moveAll_2 (by decide) ?_
  refine lv_istore (lv' := [(4, .int (nI 0)), (2, .long 0), (0, .ref h0), (1, .int (zI (-1)))]) hx hb dX0_moveAll_3 hl (by decide) rfl (fun ls hl => ?_)
  have lp5 : ∀ (n i : Nat), i + n = 20 → ∀ (H : Heap) (locs : List Loc), va_P D vwCl [(h0, .inr (0, [.ref a1])), (a1, .inl (cI, 600, .inl (nA (mW C i))))] H → va_D A [(h0, .inr (0, [.ref a1])), (a1, .inl (cI, 600, .inl (nA (mW C i))))] → va_S A s.heap H locs → ∀ (ls : Array Slot), lv_has ls 6 [(0, .ref h0), (1, .int (zI (-1))), (2, .long (mWl C i)), (4, .int (nI i))] → W p l e (headSpec wsX0_moveAll ({ frames := 3, cells := 0, slots := 0, locals := 74 } : Room)).room s m args below meth c H locs 0 0 (MQ below (Ql9 D A [(h0, .inr (0, [.ref a1])), (a1, .inl (cI, 600, .inl (nA (mW C 20))))] (mWl C 20)) args s 0 0 A) (F0 m 5 ls []) := by
    intro n
    induction n with
    | zero =>
      intro i hcnti H locs hP hD hS ls hl
      obtain rfl : 20 = i := by omega
      refine lv_iload hx hb dX0_moveAll_5 (lv_at hl 3 rfl) ?_
      refine lv_bipush (v := nI 20) hx hb dX0_moveAll_7 (by decide) ?_
      refine ci_ge (tgt := 47) hx hb dX0_moveAll_9 (by decide) (nT (by omega)) (nT (by omega)) (fun c_9 => ?_) (fun c_9 => by omega)
      refine lv_lload_n hx hb dX0_moveAll_47 rfl (lv_at hl 2 rfl) ?_
      exact fin_l hx hb hr hlocks hP hD hS (rfl) dX0_moveAll_48
    | succ n ih =>
      intro i hcnti H locs hP hD hS ls hl
      have hlti : i < 20 := by omega
      refine lv_iload hx hb dX0_moveAll_5 (lv_at hl 3 rfl) ?_
      refine lv_bipush (v := nI 20) hx hb dX0_moveAll_7 (by decide) ?_
      refine ci_ge (tgt := 47) hx hb dX0_moveAll_9 (by decide) (nT (by omega)) (nT (by omega)) (fun c_9 => by omega) (fun c_9 => ?_)
      refine lv_iload_n hx hb dX0_moveAll_12 rfl (lv_at hl 1 rfl) ?_
      refine c0_le (tgt := 24) hx hb dX0_moveAll_13 (by decide) (zT (by omega) (by omega)) (fun c_13 => ?_) (fun c_13 => by omega)
      refine lv_iload hx hb dX0_moveAll_24 (lv_at hl 3 rfl) ?_
      refine lv_istore (lv' := [(5, .int (nI i)), (0, .ref h0), (1, .int (zI (-1))), (2, .long (mWl C i)), (4, .int (nI i))]) hx hb dX0_moveAll_26 hl (by decide) rfl (fun ls hl => ?_)
      refine lv_lload_n hx hb dX0_moveAll_28 rfl (lv_at hl 3 rfl) ?_
      refine lv_aload_n hx hb dX0_moveAll_29 rfl (lv_at hl 1 rfl) ?_
      refine lv_iload hx hb dX0_moveAll_30 (lv_at hl 0 rfl) ?_
      refine lv_iload hx hb dX0_moveAll_32 (lv_at hl 0 rfl) ?_
      refine lv_iload_n hx hb dX0_moveAll_34 rfl (lv_at hl 2 rfl) ?_
      rcases Nat.decEq i 0 with hz | hz
      · have hi1 : mW C (i + 1) = mvi (mW C i) i (i - 1) 30 := if_neg hz
        have hi2 : mWl C (i + 1) = mWl C i + 0 := by show mWl C i + (if i = 0 then mvl (mW C i) i 30 else 0) = _; rw [if_neg hz]
        refine lv_iadd hx hb dX0_moveAll_35 ?_
        refine tp_i (nz_add _ _) ?_
        refine tp_i (show (zI (((i) : Int) + (-1)) : Int32) = nI (i - 1) from z_n (by omega)) ?_
        refine cr_l (wc := [(h0, .inr (0, [.ref a1])), (a1, .inl (cI, 600, .inl (nA (mW C i))))]) (w1 := [(h0, .inr (0, [.ref a1])), (a1, .inl (cI, 600, .inl (nA (mvi (mW C i) i (i - 1) 30))))]) (ws2 := [(h0, .inr (0, [.ref a1])), (a1, .inl (cI, 600, .inl (nA (mvi (mW C i) i (i - 1) 30))))]) hP hD hS hA [0, 1] rfl rfl rfl (va_runV (As := [.int (nI i), .int (nI (i - 1))]) (rest := [.long (mWl C i)]) ⟨hx, hb, hml, hown, hts⟩ (c_X0_moveFrom_in l D cI cJ cZ h0 a1 (mW C i) i (i - 1) (by omega) (by omega) H.size) (cwV 2 hts gX0_moveAll_X0_moveFrom rfl rfl rfl (by decide +kernel) ⟨Nat.le_of_ble_eq_true rfl, Nat.le_of_ble_eq_true rfl⟩) (pvV hT hP hD [0, 1] rfl rfl 0 rfl rfl) rfl rfl hl.1 rfl (lv_room (Nat.le_of_ble_eq_true rfl)) dX0_moveAll_36 ⟨Nat.zero_le _, Nat.zero_le _⟩) (fun H locs hP hD hS => ?_)
        refine lv_ladd hx hb dX0_moveAll_39 ?_
        refine lv_lstore_n (lv' := [(2, .long ((mWl C i) + 0)), (5, .int (nI i)), (0, .ref h0), (1, .int (zI (-1))), (4, .int (nI i))]) hx hb dX0_moveAll_40 rfl hl (by decide) rfl (fun ls hl => ?_)
        refine lv_iinc (v := nI (i + 1)) (lv' := [(4, .int (nI (i + 1))), (2, .long ((mWl C i) + 0)), (5, .int (nI i)), (0, .ref h0), (1, .int (zI (-1)))]) hx hb dX0_moveAll_41 hl (k := 4) rfl (n_inc i) (by decide) rfl (fun ls hl => ?_)
        refine lv_goto (tgt := 5) hx hb dX0_moveAll_44 (by decide) ?_
        have hwe : ([(h0, .inr (0, [.ref a1])), (a1, .inl (cI, 600, .inl (nA (mW C (i + 1)))))] : va_W) = [(h0, .inr (0, [.ref a1])), (a1, .inl (cI, 600, .inl (nA (mvi (mW C i) i (i - 1) 30))))] := (by rw [hi1])
        have hle : ([(0, .ref h0), (1, .int (zI (-1))), (2, .long (mWl C (i + 1))), (4, .int (nI (i + 1)))] : List (Nat × Value)) = [(0, .ref h0), (1, .int (zI (-1))), (2, .long ((mWl C i) + 0)), (4, .int (nI (i + 1)))] := (by rw [hi2])
        exact ih (i + 1) (by omega) H locs (by rw [hwe]; exact hP) (by rw [hwe]; exact hD) hS ls (by rw [hle]; exact lv_sub hl [3, 4, 1, 0] rfl)
      · have hi1 : mW C (i + 1) = mvo (mW C i) i 30 := if_pos hz
        have hi2 : mWl C (i + 1) = mWl C i + mvl (mW C i) i 30 := by show mWl C i + (if i = 0 then mvl (mW C i) i 30 else 0) = _; rw [if_pos hz]
        refine lv_iadd hx hb dX0_moveAll_35 ?_
        refine tp_i (nz_add _ _) ?_
        refine tp_i (show (zI (((i) : Int) + (-1)) : Int32) = zI ((i : Int) + -1) from rfl) ?_
        refine cr_l (wc := [(h0, .inr (0, [.ref a1])), (a1, .inl (cI, 600, .inl (nA (mW C i))))]) (w1 := [(h0, .inr (0, [.ref a1])), (a1, .inl (cI, 600, .inl (nA (mvo (mW C i) i 30))))]) (ws2 := [(h0, .inr (0, [.ref a1])), (a1, .inl (cI, 600, .inl (nA (mvo (mW C i) i 30))))]) hP hD hS hA [0, 1] rfl rfl rfl (va_runV (As := [.int (nI i), .int (zI ((i : Int) + -1))]) (rest := [.long (mWl C i)]) ⟨hx, hb, hml, hown, hts⟩ (c_X0_moveFrom_out l D cI cJ cZ h0 a1 (mW C i) i ((i : Int) + -1) (by omega) (by omega) (by omega) (by omega) H.size) (cwV 2 hts gX0_moveAll_X0_moveFrom rfl rfl rfl (by decide +kernel) ⟨Nat.le_of_ble_eq_true rfl, Nat.le_of_ble_eq_true rfl⟩) (pvV hT hP hD [0, 1] rfl rfl 0 rfl rfl) rfl rfl hl.1 rfl (lv_room (Nat.le_of_ble_eq_true rfl)) dX0_moveAll_36 ⟨Nat.zero_le _, Nat.zero_le _⟩) (fun H locs hP hD hS => ?_)
        refine lv_ladd hx hb dX0_moveAll_39 ?_
        refine lv_lstore_n (lv' := [(2, .long ((mWl C i) + (mvl (mW C i) i 30))), (5, .int (nI i)), (0, .ref h0), (1, .int (zI (-1))), (4, .int (nI i))]) hx hb dX0_moveAll_40 rfl hl (by decide) rfl (fun ls hl => ?_)
        refine lv_iinc (v := nI (i + 1)) (lv' := [(4, .int (nI (i + 1))), (2, .long ((mWl C i) + (mvl (mW C i) i 30))), (5, .int (nI i)), (0, .ref h0), (1, .int (zI (-1)))]) hx hb dX0_moveAll_41 hl (k := 4) rfl (n_inc i) (by decide) rfl (fun ls hl => ?_)
        refine lv_goto (tgt := 5) hx hb dX0_moveAll_44 (by decide) ?_
        have hwe : ([(h0, .inr (0, [.ref a1])), (a1, .inl (cI, 600, .inl (nA (mW C (i + 1)))))] : va_W) = [(h0, .inr (0, [.ref a1])), (a1, .inl (cI, 600, .inl (nA (mvo (mW C i) i 30))))] := (by rw [hi1])
        have hle : ([(0, .ref h0), (1, .int (zI (-1))), (2, .long (mWl C (i + 1))), (4, .int (nI (i + 1)))] : List (Nat × Value)) = [(0, .ref h0), (1, .int (zI (-1))), (2, .long ((mWl C i) + (mvl (mW C i) i 30))), (4, .int (nI (i + 1)))] := (by rw [hi2])
        exact ih (i + 1) (by omega) H locs (by rw [hwe]; exact hP) (by rw [hwe]; exact hD) hS ls (by rw [hle]; exact lv_sub hl [3, 4, 1, 0] rfl)
  have hwe : ([(h0, .inr (0, [.ref a1])), (a1, .inl (cI, 600, .inl (nA (mW C 0))))] : va_W) = [(h0, .inr (0, [.ref a1])), (a1, .inl (cI, 600, .inl (nA C)))] := rfl
  have hle : ([(0, .ref h0), (1, .int (zI (-1))), (2, .long (mWl C 0)), (4, .int (nI 0))] : List (Nat × Value)) = [(0, .ref h0), (1, .int (zI (-1))), (2, .long 0), (4, .int (nI 0))] := rfl
  exact lp5 20 0 (by omega) H locs (by rw [hwe]; exact hP) (by rw [hwe]; exact hD) hS ls (by rw [hle]; exact lv_sub hl [2, 3, 1, 0] rfl)
set_option maxHeartbeats 4000000 in
set_option maxRecDepth 100000 in
theorem c_X0_plainEcho_in (l : Launch) (D : va_G) (cI cJ cZ : ClassId) (h0 : Nat) (a1 : Nat) (C : Nat → Nat) (ki : Nat) (la : Nat) (hki : ki < 20) (hla : la < 10) (sz : Nat) : Met l yX0_plainEcho wsX0_plainEcho ({ frames := 2, cells := 0, slots := 0, locals := 46 } : Room) (va_Pc [.ref h0, .int (nI ki), .int (nI la)] (mPre D cI cJ cZ [(h0, .inr (0, [.ref a1])), (a1, .inl (cI, 600, .inl (nA C)))] sz)) (Ql9 D (va_A [(h0, .inr (0, [.ref a1])), (a1, .inl (cI, 600, .inl (nA C)))] sz) [(h0, .inr (0, [.ref a1])), (a1, .inl (cI, 600, .inl (nA C)))] (pe9 (fun zz => C (30 * ki + 3 * la + zz)) 3)) 0 0 (va_A [(h0, .inr (0, [.ref a1])), (a1, .inl (cI, 600, .inl (nA C)))] sz) := by
  refine Met.ofW (cc := cX0_plainEcho) (maxL := 8) (ret := (some .long)) (by decide) rfl ?_
  intro p e s m args below meth c s₁ B hml hv
  obtain ⟨hargs, hsz, hP, hT, hD0⟩ := hv
  have hx := B.exec
  have hb := B.bytes
  have hr := B.returns
  have hts := atoms_spec (ws := wsX0_plainEcho) B.pre
  have hown : s.vm.findClass RX0 = some m.cls := findClass_of_methodNamed B.named
  have hlocks := B.notSynchronized
  subst hsz
  have hK := hT.1
  have hD := hD0.self (sz := s.heap.size)
  generalize hAe : va_A [(h0, .inr (0, [.ref a1])), (a1, .inl (cI, 600, .inl (nA C)))] s.heap.size = A at hD ⊢
  have hA : ∀ q : Nat, s.heap.size ≤ q → A q := fun q h => by rw [← hAe]; exact Or.inr h
  have hS : va_S A s.heap s.heap [] := va_S.rf
  obtain ⟨H, hHe⟩ : ∃ H : Heap, H = s.heap := ⟨_, rfl⟩
  have hS : va_S A s.heap H [] := by rw [hHe]; exact va_S.rf
  rw [← hHe] at hP
  suffices K0 : W p l e (headSpec wsX0_plainEcho ({ frames := 2, cells := 0, slots := 0, locals := 46 } : Room)).room s m args below meth c H [] 0 0 (MQ below (Ql9 D A [(h0, .inr (0, [.ref a1])), (a1, .inl (cI, 600, .inl (nA C)))] (pe9 (fun zz => C (30 * ki + 3 * la + zz)) 3)) args s 0 0 A) (entryFrame m args 8) by rw [hHe] at K0; exact K0
  refine W.eq (g2 := entryFrame m ([.ref h0, .int (nI ki), .int (nI la)] : List Value).toArray 8) (by rw [hargs]) ?_
  have hl := lv_entry ([.ref h0, .int (nI ki), .int (nI la)]) (n := 8) (Nat.le_of_ble_eq_true rfl)
  rw [lg_entry_eq]
  generalize (lg_sl ([.ref h0, .int (nI ki), .int (nI la)]) ++ List.replicate (8 - (lg_sl ([.ref h0, .int (nI ki), .int (nI la)])).length) Slot.unset).toArray = ls at hl ⊢
  have hl : lv_has ls 8 [(0, .ref h0), (1, .int (nI ki)), (2, .int (nI la))] := hl
  generalize ([] : List Loc) = locs at hS ⊢
  refine lv_lconst (v := 0) hx hb dX0_plainEcho_0 (by decide) ?_
  refine lv_lstore_n (lv' := [(3, .long 0), (0, .ref h0), (1, .int (nI ki)), (2, .int (nI la))]) hx hb dX0_plainEcho_1 rfl hl (by decide) rfl (fun ls hl => ?_)
  refine lv_iconst (v := nI 1) hx hb dX0_plainEcho_2 (by decide) ?_
  refine lv_istore (lv' := [(5, .int (nI 1)), (3, .long 0), (0, .ref h0), (1, .int (nI ki)), (2, .int (nI la))]) hx hb dX0_plainEcho_3 hl (by decide) rfl (fun ls hl => ?_)
  have lp5 : ∀ (n z : Nat), z + n = 3 → ∀ (H : Heap) (locs : List Loc), va_P D vwCl [(h0, .inr (0, [.ref a1])), (a1, .inl (cI, 600, .inl (nA C)))] H → va_D A [(h0, .inr (0, [.ref a1])), (a1, .inl (cI, 600, .inl (nA C)))] → va_S A s.heap H locs → ∀ (ls : Array Slot), lv_has ls 8 [(0, .ref h0), (1, .int (nI ki)), (2, .int (nI la)), (3, .long (pe9 (fun zz => C (30 * ki + 3 * la + zz)) z)), (5, .int (nI (z + 1)))] → W p l e (headSpec wsX0_plainEcho ({ frames := 2, cells := 0, slots := 0, locals := 46 } : Room)).room s m args below meth c H locs 0 0 (MQ below (Ql9 D A [(h0, .inr (0, [.ref a1])), (a1, .inl (cI, 600, .inl (nA C)))] (pe9 (fun zz => C (30 * ki + 3 * la + zz)) 3)) args s 0 0 A) (F0 m 5 ls []) := by
    intro n
    induction n with
    | zero =>
      intro z hcntz H locs hP hD hS ls hl
      obtain rfl : 3 = z := by omega
      refine lv_iload hx hb dX0_plainEcho_5 (lv_at hl 4 rfl) ?_
      refine lv_iconst (v := nI 3) hx hb dX0_plainEcho_7 (by decide) ?_
      refine ci_gt (tgt := 48) hx hb dX0_plainEcho_8 (by decide) (nT (by omega)) (nT (by omega)) (fun c_8 => ?_) (fun c_8 => by omega)
      refine lv_lload_n hx hb dX0_plainEcho_48 rfl (lv_at hl 3 rfl) ?_
      exact fin_l hx hb hr hlocks hP hD hS (rfl) dX0_plainEcho_49
    | succ n ih =>
      intro z hcntz H locs hP hD hS ls hl
      have hltz : z < 3 := by omega
      refine lv_iload hx hb dX0_plainEcho_5 (lv_at hl 4 rfl) ?_
      refine lv_iconst (v := nI 3) hx hb dX0_plainEcho_7 (by decide) ?_
      refine ci_gt (tgt := 48) hx hb dX0_plainEcho_8 (by decide) (nT (by omega)) (nT (by omega)) (fun c_8 => by omega) (fun c_8 => ?_)
      refine lv_iload hx hb dX0_plainEcho_11 (lv_at hl 4 rfl) ?_
      refine lv_i2l (v := (nI (z + 1)).toInt64) hx hb dX0_plainEcho_13 rfl ?_
      refine lv_iload hx hb dX0_plainEcho_14 (lv_at hl 4 rfl) ?_
      refine lv_i2l (v := (nI (z + 1)).toInt64) hx hb dX0_plainEcho_16 rfl ?_
      refine lv_lmul hx hb dX0_plainEcho_17 ?_
      refine lv_iload hx hb dX0_plainEcho_18 (lv_at hl 4 rfl) ?_
      refine lv_i2l (v := (nI (z + 1)).toInt64) hx hb dX0_plainEcho_20 rfl ?_
      refine lv_lmul hx hb dX0_plainEcho_21 ?_
      refine lv_lstore (lv' := [(6, .long ((((nI (z + 1)).toInt64) * ((nI (z + 1)).toInt64)) * ((nI (z + 1)).toInt64))), (0, .ref h0), (1, .int (nI ki)), (2, .int (nI la)), (3, .long (pe9 (fun zz => C (30 * ki + 3 * la + zz)) z)), (5, .int (nI (z + 1)))]) hx hb dX0_plainEcho_22 hl (by decide) rfl (fun ls hl => ?_)
      refine lv_lload_n hx hb dX0_plainEcho_24 rfl (lv_at hl 4 rfl) ?_
      refine lv_lload hx hb dX0_plainEcho_25 (lv_at hl 0 rfl) ?_
      refine lv_lload hx hb dX0_plainEcho_27 (lv_at hl 0 rfl) ?_
      refine lv_lmul hx hb dX0_plainEcho_29 ?_
      refine lv_aload_n hx hb dX0_plainEcho_30 rfl (lv_at hl 1 rfl) ?_
      refine lv_iload_n hx hb dX0_plainEcho_31 rfl (lv_at hl 2 rfl) ?_
      refine lv_iload_n hx hb dX0_plainEcho_32 rfl (lv_at hl 3 rfl) ?_
      refine lv_iload hx hb dX0_plainEcho_33 (lv_at hl 5 rfl) ?_
      refine cr_i (wc := [(h0, .inr (0, [.ref a1])), (a1, .inl (cI, 600, .inl (nA C)))]) (w1 := [(h0, .inr (0, [.ref a1])), (a1, .inl (cI, 600, .inl (nA C)))]) (ws2 := [(h0, .inr (0, [.ref a1])), (a1, .inl (cI, 600, .inl (nA C)))]) hP hD hS hA [0, 1] rfl rfl rfl (va_runV (As := [.int (nI ki), .int (nI la), .int (nI (z + 1))]) (rest := [.long (((((nI (z + 1)).toInt64) * ((nI (z + 1)).toInt64)) * ((nI (z + 1)).toInt64)) * ((((nI (z + 1)).toInt64) * ((nI (z + 1)).toInt64)) * ((nI (z + 1)).toInt64))), .long (pe9 (fun zz => C (30 * ki + 3 * la + zz)) z)]) ⟨hx, hb, hml, hown, hts⟩ (c_X0_manyAt_in l D cI cJ cZ h0 a1 C ki la (z + 1) (by omega) (by omega) (by omega) (by omega) H.size) (cwV 3 hts gX0_plainEcho_X0_manyAt rfl rfl rfl (by decide +kernel) ⟨Nat.le_of_ble_eq_true rfl, Nat.le_of_ble_eq_true rfl⟩) (pvV hT hP hD [0, 1] rfl rfl 0 rfl rfl) rfl rfl hl.1 rfl (lv_room (Nat.le_of_ble_eq_true rfl)) dX0_plainEcho_35 ⟨Nat.zero_le _, Nat.zero_le _⟩) (fun H locs hP hD hS => ?_)
      refine lv_i2l (v := (nI (C (30 * ki + 3 * la + ((z + 1) - 1)))).toInt64) hx hb dX0_plainEcho_38 rfl ?_
      refine lv_lmul hx hb dX0_plainEcho_39 ?_
      refine lv_ladd hx hb dX0_plainEcho_40 ?_
      refine lv_lstore_n (lv' := [(3, .long ((pe9 (fun zz => C (30 * ki + 3 * la + zz)) z) + ((((((nI (z + 1)).toInt64) * ((nI (z + 1)).toInt64)) * ((nI (z + 1)).toInt64)) * ((((nI (z + 1)).toInt64) * ((nI (z + 1)).toInt64)) * ((nI (z + 1)).toInt64))) * ((nI (C (30 * ki + 3 * la + ((z + 1) - 1)))).toInt64)))), (6, .long ((((nI (z + 1)).toInt64) * ((nI (z + 1)).toInt64)) * ((nI (z + 1)).toInt64))), (0, .ref h0), (1, .int (nI ki)), (2, .int (nI la)), (5, .int (nI (z + 1)))]) hx hb dX0_plainEcho_41 rfl hl (by decide) rfl (fun ls hl => ?_)
      refine lv_iinc (v := nI (z + 1 + 1)) (lv' := [(5, .int (nI (z + 1 + 1))), (3, .long ((pe9 (fun zz => C (30 * ki + 3 * la + zz)) z) + ((((((nI (z + 1)).toInt64) * ((nI (z + 1)).toInt64)) * ((nI (z + 1)).toInt64)) * ((((nI (z + 1)).toInt64) * ((nI (z + 1)).toInt64)) * ((nI (z + 1)).toInt64))) * ((nI (C (30 * ki + 3 * la + ((z + 1) - 1)))).toInt64)))), (6, .long ((((nI (z + 1)).toInt64) * ((nI (z + 1)).toInt64)) * ((nI (z + 1)).toInt64))), (0, .ref h0), (1, .int (nI ki)), (2, .int (nI la))]) hx hb dX0_plainEcho_42 hl (k := 5) rfl (n_inc (z + 1)) (by decide) rfl (fun ls hl => ?_)
      refine lv_goto (tgt := 5) hx hb dX0_plainEcho_45 (by decide) ?_
      have hle : ([(0, .ref h0), (1, .int (nI ki)), (2, .int (nI la)), (3, .long (pe9 (fun zz => C (30 * ki + 3 * la + zz)) (z + 1))), (5, .int (nI ((z + 1) + 1)))] : List (Nat × Value)) = [(0, .ref h0), (1, .int (nI ki)), (2, .int (nI la)), (3, .long ((pe9 (fun zz => C (30 * ki + 3 * la + zz)) z) + ((((((nI (z + 1)).toInt64) * ((nI (z + 1)).toInt64)) * ((nI (z + 1)).toInt64)) * ((((nI (z + 1)).toInt64) * ((nI (z + 1)).toInt64)) * ((nI (z + 1)).toInt64))) * ((nI (C (30 * ki + 3 * la + ((z + 1) - 1)))).toInt64)))), (5, .int (nI (z + 1 + 1)))] := rfl
      exact ih (z + 1) (by omega) H locs hP hD hS ls (by rw [hle]; exact lv_sub hl [3, 4, 5, 1, 0] rfl)
  have hle : ([(0, .ref h0), (1, .int (nI ki)), (2, .int (nI la)), (3, .long (pe9 (fun zz => C (30 * ki + 3 * la + zz)) 0)), (5, .int (nI (0 + 1)))] : List (Nat × Value)) = [(0, .ref h0), (1, .int (nI ki)), (2, .int (nI la)), (3, .long 0), (5, .int (nI 1))] := rfl
  exact lp5 3 0 (by omega) H locs hP hD hS ls (by rw [hle]; exact lv_sub hl [2, 3, 4, 1, 0] rfl)
set_option maxHeartbeats 4000000 in
set_option maxRecDepth 100000 in
theorem c_X0_plainEcho_out (l : Launch) (D : va_G) (cI cJ cZ : ClassId) (h0 : Nat) (a1 : Nat) (C : Nat → Nat) (ki : Nat) (la : Nat) (hki : ki < 20) (hla : 10 ≤ la) (hlb : la < 1000) (sz : Nat) : Met l yX0_plainEcho wsX0_plainEcho ({ frames := 2, cells := 0, slots := 0, locals := 46 } : Room) (va_Pc [.ref h0, .int (nI ki), .int (nI la)] (mPre D cI cJ cZ [(h0, .inr (0, [.ref a1])), (a1, .inl (cI, 600, .inl (nA C)))] sz)) (Ql9 D (va_A [(h0, .inr (0, [.ref a1])), (a1, .inl (cI, 600, .inl (nA C)))] sz) [(h0, .inr (0, [.ref a1])), (a1, .inl (cI, 600, .inl (nA C)))] (pe9 (fun _ => 0) 3)) 0 0 (va_A [(h0, .inr (0, [.ref a1])), (a1, .inl (cI, 600, .inl (nA C)))] sz) := by
  refine Met.ofW (cc := cX0_plainEcho) (maxL := 8) (ret := (some .long)) (by decide) rfl ?_
  intro p e s m args below meth c s₁ B hml hv
  obtain ⟨hargs, hsz, hP, hT, hD0⟩ := hv
  have hx := B.exec
  have hb := B.bytes
  have hr := B.returns
  have hts := atoms_spec (ws := wsX0_plainEcho) B.pre
  have hown : s.vm.findClass RX0 = some m.cls := findClass_of_methodNamed B.named
  have hlocks := B.notSynchronized
  subst hsz
  have hK := hT.1
  have hD := hD0.self (sz := s.heap.size)
  generalize hAe : va_A [(h0, .inr (0, [.ref a1])), (a1, .inl (cI, 600, .inl (nA C)))] s.heap.size = A at hD ⊢
  have hA : ∀ q : Nat, s.heap.size ≤ q → A q := fun q h => by rw [← hAe]; exact Or.inr h
  have hS : va_S A s.heap s.heap [] := va_S.rf
  obtain ⟨H, hHe⟩ : ∃ H : Heap, H = s.heap := ⟨_, rfl⟩
  have hS : va_S A s.heap H [] := by rw [hHe]; exact va_S.rf
  rw [← hHe] at hP
  suffices K0 : W p l e (headSpec wsX0_plainEcho ({ frames := 2, cells := 0, slots := 0, locals := 46 } : Room)).room s m args below meth c H [] 0 0 (MQ below (Ql9 D A [(h0, .inr (0, [.ref a1])), (a1, .inl (cI, 600, .inl (nA C)))] (pe9 (fun _ => 0) 3)) args s 0 0 A) (entryFrame m args 8) by rw [hHe] at K0; exact K0
  refine W.eq (g2 := entryFrame m ([.ref h0, .int (nI ki), .int (nI la)] : List Value).toArray 8) (by rw [hargs]) ?_
  have hl := lv_entry ([.ref h0, .int (nI ki), .int (nI la)]) (n := 8) (Nat.le_of_ble_eq_true rfl)
  rw [lg_entry_eq]
  generalize (lg_sl ([.ref h0, .int (nI ki), .int (nI la)]) ++ List.replicate (8 - (lg_sl ([.ref h0, .int (nI ki), .int (nI la)])).length) Slot.unset).toArray = ls at hl ⊢
  have hl : lv_has ls 8 [(0, .ref h0), (1, .int (nI ki)), (2, .int (nI la))] := hl
  generalize ([] : List Loc) = locs at hS ⊢
  refine lv_lconst (v := 0) hx hb dX0_plainEcho_0 (by decide) ?_
  refine lv_lstore_n (lv' := [(3, .long 0), (0, .ref h0), (1, .int (nI ki)), (2, .int (nI la))]) hx hb dX0_plainEcho_1 rfl hl (by decide) rfl (fun ls hl => ?_)
  refine lv_iconst (v := nI 1) hx hb dX0_plainEcho_2 (by decide) ?_
  refine lv_istore (lv' := [(5, .int (nI 1)), (3, .long 0), (0, .ref h0), (1, .int (nI ki)), (2, .int (nI la))]) hx hb dX0_plainEcho_3 hl (by decide) rfl (fun ls hl => ?_)
  have lp5 : ∀ (n z : Nat), z + n = 3 → ∀ (H : Heap) (locs : List Loc), va_P D vwCl [(h0, .inr (0, [.ref a1])), (a1, .inl (cI, 600, .inl (nA C)))] H → va_D A [(h0, .inr (0, [.ref a1])), (a1, .inl (cI, 600, .inl (nA C)))] → va_S A s.heap H locs → ∀ (ls : Array Slot), lv_has ls 8 [(0, .ref h0), (1, .int (nI ki)), (2, .int (nI la)), (3, .long (pe9 (fun _ => 0) z)), (5, .int (nI (z + 1)))] → W p l e (headSpec wsX0_plainEcho ({ frames := 2, cells := 0, slots := 0, locals := 46 } : Room)).room s m args below meth c H locs 0 0 (MQ below (Ql9 D A [(h0, .inr (0, [.ref a1])), (a1, .inl (cI, 600, .inl (nA C)))] (pe9 (fun _ => 0) 3)) args s 0 0 A) (F0 m 5 ls []) := by
    intro n
    induction n with
    | zero =>
      intro z hcntz H locs hP hD hS ls hl
      obtain rfl : 3 = z := by omega
      refine lv_iload hx hb dX0_plainEcho_5 (lv_at hl 4 rfl) ?_
      refine lv_iconst (v := nI 3) hx hb dX0_plainEcho_7 (by decide) ?_
      refine ci_gt (tgt := 48) hx hb dX0_plainEcho_8 (by decide) (nT (by omega)) (nT (by omega)) (fun c_8 => ?_) (fun c_8 => by omega)
      refine lv_lload_n hx hb dX0_plainEcho_48 rfl (lv_at hl 3 rfl) ?_
      exact fin_l hx hb hr hlocks hP hD hS (rfl) dX0_plainEcho_49
    | succ n ih =>
      intro z hcntz H locs hP hD hS ls hl
      have hltz : z < 3 := by omega
      refine lv_iload hx hb dX0_plainEcho_5 (lv_at hl 4 rfl) ?_
      refine lv_iconst (v := nI 3) hx hb dX0_plainEcho_7 (by decide) ?_
      refine ci_gt (tgt := 48) hx hb dX0_plainEcho_8 (by decide) (nT (by omega)) (nT (by omega)) (fun c_8 => by omega) (fun c_8 => ?_)
      refine lv_iload hx hb dX0_plainEcho_11 (lv_at hl 4 rfl) ?_
      refine lv_i2l (v := (nI (z + 1)).toInt64) hx hb dX0_plainEcho_13 rfl ?_
      refine lv_iload hx hb dX0_plainEcho_14 (lv_at hl 4 rfl) ?_
      refine lv_i2l (v := (nI (z + 1)).toInt64) hx hb dX0_plainEcho_16 rfl ?_
      refine lv_lmul hx hb dX0_plainEcho_17 ?_
      refine lv_iload hx hb dX0_plainEcho_18 (lv_at hl 4 rfl) ?_
      refine lv_i2l (v := (nI (z + 1)).toInt64) hx hb dX0_plainEcho_20 rfl ?_
      refine lv_lmul hx hb dX0_plainEcho_21 ?_
      refine lv_lstore (lv' := [(6, .long ((((nI (z + 1)).toInt64) * ((nI (z + 1)).toInt64)) * ((nI (z + 1)).toInt64))), (0, .ref h0), (1, .int (nI ki)), (2, .int (nI la)), (3, .long (pe9 (fun _ => 0) z)), (5, .int (nI (z + 1)))]) hx hb dX0_plainEcho_22 hl (by decide) rfl (fun ls hl => ?_)
      refine lv_lload_n hx hb dX0_plainEcho_24 rfl (lv_at hl 4 rfl) ?_
      refine lv_lload hx hb dX0_plainEcho_25 (lv_at hl 0 rfl) ?_
      refine lv_lload hx hb dX0_plainEcho_27 (lv_at hl 0 rfl) ?_
      refine lv_lmul hx hb dX0_plainEcho_29 ?_
      refine lv_aload_n hx hb dX0_plainEcho_30 rfl (lv_at hl 1 rfl) ?_
      refine lv_iload_n hx hb dX0_plainEcho_31 rfl (lv_at hl 2 rfl) ?_
      refine lv_iload_n hx hb dX0_plainEcho_32 rfl (lv_at hl 3 rfl) ?_
      refine lv_iload hx hb dX0_plainEcho_33 (lv_at hl 5 rfl) ?_
      refine cr_i (wc := [(h0, .inr (0, [.ref a1])), (a1, .inl (cI, 600, .inl (nA C)))]) (w1 := [(h0, .inr (0, [.ref a1])), (a1, .inl (cI, 600, .inl (nA C)))]) (ws2 := [(h0, .inr (0, [.ref a1])), (a1, .inl (cI, 600, .inl (nA C)))]) hP hD hS hA [0, 1] rfl rfl rfl (va_runV (As := [.int (nI ki), .int (nI la), .int (nI (z + 1))]) (rest := [.long (((((nI (z + 1)).toInt64) * ((nI (z + 1)).toInt64)) * ((nI (z + 1)).toInt64)) * ((((nI (z + 1)).toInt64) * ((nI (z + 1)).toInt64)) * ((nI (z + 1)).toInt64))), .long (pe9 (fun _ => 0) z)]) ⟨hx, hb, hml, hown, hts⟩ (c_X0_manyAt_out l D cI cJ cZ h0 a1 C ki la (z + 1) (by omega) (by omega) (by omega) (by omega) (by omega) H.size) (cwV 3 hts gX0_plainEcho_X0_manyAt rfl rfl rfl (by decide +kernel) ⟨Nat.le_of_ble_eq_true rfl, Nat.le_of_ble_eq_true rfl⟩) (pvV hT hP hD [0, 1] rfl rfl 0 rfl rfl) rfl rfl hl.1 rfl (lv_room (Nat.le_of_ble_eq_true rfl)) dX0_plainEcho_35 ⟨Nat.zero_le _, Nat.zero_le _⟩) (fun H locs hP hD hS => ?_)
      refine lv_i2l (v := (nI 0).toInt64) hx hb dX0_plainEcho_38 rfl ?_
      refine lv_lmul hx hb dX0_plainEcho_39 ?_
      refine lv_ladd hx hb dX0_plainEcho_40 ?_
      refine lv_lstore_n (lv' := [(3, .long ((pe9 (fun _ => 0) z) + ((((((nI (z + 1)).toInt64) * ((nI (z + 1)).toInt64)) * ((nI (z + 1)).toInt64)) * ((((nI (z + 1)).toInt64) * ((nI (z + 1)).toInt64)) * ((nI (z + 1)).toInt64))) * ((nI 0).toInt64)))), (6, .long ((((nI (z + 1)).toInt64) * ((nI (z + 1)).toInt64)) * ((nI (z + 1)).toInt64))), (0, .ref h0), (1, .int (nI ki)), (2, .int (nI la)), (5, .int (nI (z + 1)))]) hx hb dX0_plainEcho_41 rfl hl (by decide) rfl (fun ls hl => ?_)
      refine lv_iinc (v := nI (z + 1 + 1)) (lv' := [(5, .int (nI (z + 1 + 1))), (3, .long ((pe9 (fun _ => 0) z) + ((((((nI (z + 1)).toInt64) * ((nI (z + 1)).toInt64)) * ((nI (z + 1)).toInt64)) * ((((nI (z + 1)).toInt64) * ((nI (z + 1)).toInt64)) * ((nI (z + 1)).toInt64))) * ((nI 0).toInt64)))), (6, .long ((((nI (z + 1)).toInt64) * ((nI (z + 1)).toInt64)) * ((nI (z + 1)).toInt64))), (0, .ref h0), (1, .int (nI ki)), (2, .int (nI la))]) hx hb dX0_plainEcho_42 hl (k := 5) rfl (n_inc (z + 1)) (by decide) rfl (fun ls hl => ?_)
      refine lv_goto (tgt := 5) hx hb dX0_plainEcho_45 (by decide) ?_
      have hle : ([(0, .ref h0), (1, .int (nI ki)), (2, .int (nI la)), (3, .long (pe9 (fun _ => 0) (z + 1))), (5, .int (nI ((z + 1) + 1)))] : List (Nat × Value)) = [(0, .ref h0), (1, .int (nI ki)), (2, .int (nI la)), (3, .long ((pe9 (fun _ => 0) z) + ((((((nI (z + 1)).toInt64) * ((nI (z + 1)).toInt64)) * ((nI (z + 1)).toInt64)) * ((((nI (z + 1)).toInt64) * ((nI (z + 1)).toInt64)) * ((nI (z + 1)).toInt64))) * ((nI 0).toInt64)))), (5, .int (nI (z + 1 + 1)))] := rfl
      exact ih (z + 1) (by omega) H locs hP hD hS ls (by rw [hle]; exact lv_sub hl [3, 4, 5, 1, 0] rfl)
  have hle : ([(0, .ref h0), (1, .int (nI ki)), (2, .int (nI la)), (3, .long (pe9 (fun _ => 0) 0)), (5, .int (nI (0 + 1)))] : List (Nat × Value)) = [(0, .ref h0), (1, .int (nI ki)), (2, .int (nI la)), (3, .long 0), (5, .int (nI 1))] := rfl
  exact lp5 3 0 (by omega) H locs hP hD hS ls (by rw [hle]; exact lv_sub hl [2, 3, 4, 1, 0] rfl)
set_option maxHeartbeats 4000000 in
set_option maxRecDepth 100000 in
theorem c_X0_allWater (l : Launch) (D : va_G) (cI cJ cZ : ClassId) (h0 : Nat) (a1 : Nat) (C : Nat → Nat) (sz : Nat) : Met l yX0_allWater wsX0_allWater ({ frames := 2, cells := 0, slots := 0, locals := 46 } : Room) (va_Pc [.ref h0] (mPre D cI cJ cZ [(h0, .inr (0, [.ref a1])), (a1, .inl (cI, 600, .inl (nA C)))] sz)) (Ql9 D (va_A [(h0, .inr (0, [.ref a1])), (a1, .inl (cI, 600, .inl (nA C)))] sz) [(h0, .inr (0, [.ref a1])), (a1, .inl (cI, 600, .inl (nA C)))] (AWs C 600)) 0 0 (va_A [(h0, .inr (0, [.ref a1])), (a1, .inl (cI, 600, .inl (nA C)))] sz) := by
  refine Met.ofW (cc := cX0_allWater) (maxL := 6) (ret := (some .long)) (by decide) rfl ?_
  intro p e s m args below meth c s₁ B hml hv
  obtain ⟨hargs, hsz, hP, hT, hD0⟩ := hv
  have hx := B.exec
  have hb := B.bytes
  have hr := B.returns
  have hts := atoms_spec (ws := wsX0_allWater) B.pre
  have hown : s.vm.findClass RX0 = some m.cls := findClass_of_methodNamed B.named
  have hlocks := B.notSynchronized
  subst hsz
  have hK := hT.1
  have hD := hD0.self (sz := s.heap.size)
  generalize hAe : va_A [(h0, .inr (0, [.ref a1])), (a1, .inl (cI, 600, .inl (nA C)))] s.heap.size = A at hD ⊢
  have hA : ∀ q : Nat, s.heap.size ≤ q → A q := fun q h => by rw [← hAe]; exact Or.inr h
  have hS : va_S A s.heap s.heap [] := va_S.rf
  obtain ⟨H, hHe⟩ : ∃ H : Heap, H = s.heap := ⟨_, rfl⟩
  have hS : va_S A s.heap H [] := by rw [hHe]; exact va_S.rf
  rw [← hHe] at hP
  suffices K0 : W p l e (headSpec wsX0_allWater ({ frames := 2, cells := 0, slots := 0, locals := 46 } : Room)).room s m args below meth c H [] 0 0 (MQ below (Ql9 D A [(h0, .inr (0, [.ref a1])), (a1, .inl (cI, 600, .inl (nA C)))] (AWs C 600)) args s 0 0 A) (entryFrame m args 6) by rw [hHe] at K0; exact K0
  refine W.eq (g2 := entryFrame m ([.ref h0] : List Value).toArray 6) (by rw [hargs]) ?_
  have hl := lv_entry ([.ref h0]) (n := 6) (Nat.le_of_ble_eq_true rfl)
  rw [lg_entry_eq]
  generalize (lg_sl ([.ref h0]) ++ List.replicate (6 - (lg_sl ([.ref h0])).length) Slot.unset).toArray = ls at hl ⊢
  have hl : lv_has ls 6 [(0, .ref h0)] := hl
  generalize ([] : List Loc) = locs at hS ⊢
  refine lv_lconst (v := 0) hx hb dX0_allWater_0 (by decide) ?_
  refine lv_lstore_n (lv' := [(1, .long 0), (0, .ref h0)]) hx hb dX0_allWater_1 rfl hl (by decide) rfl (fun ls hl => ?_)
  refine lv_iconst (v := nI 0) hx hb dX0_allWater_2 (by decide) ?_
  refine lv_istore_n (lv' := [(3, .int (nI 0)), (1, .long 0), (0, .ref h0)]) hx hb dX0_allWater_3 rfl hl (by decide) rfl (fun ls hl => ?_)
  have lp4 : ∀ (n ki : Nat), ki + n = 20 → ∀ (H : Heap) (locs : List Loc), va_P D vwCl [(h0, .inr (0, [.ref a1])), (a1, .inl (cI, 600, .inl (nA C)))] H → va_D A [(h0, .inr (0, [.ref a1])), (a1, .inl (cI, 600, .inl (nA C)))] → va_S A s.heap H locs → ∀ (ls : Array Slot), lv_has ls 6 [(0, .ref h0), (1, .long (AWs C (30 * ki))), (3, .int (nI ki))] → W p l e (headSpec wsX0_allWater ({ frames := 2, cells := 0, slots := 0, locals := 46 } : Room)).room s m args below meth c H locs 0 0 (MQ below (Ql9 D A [(h0, .inr (0, [.ref a1])), (a1, .inl (cI, 600, .inl (nA C)))] (AWs C 600)) args s 0 0 A) (F0 m 4 ls []) := by
    intro n
    induction n with
    | zero =>
      intro ki hcntki H locs hP hD hS ls hl
      obtain rfl : 20 = ki := by omega
      refine lv_iload_n hx hb dX0_allWater_4 rfl (lv_at hl 2 rfl) ?_
      refine lv_bipush (v := nI 20) hx hb dX0_allWater_5 (by decide) ?_
      refine ci_ge (tgt := 64) hx hb dX0_allWater_7 (by decide) (nT (by omega)) (nT (by omega)) (fun c_7 => ?_) (fun c_7 => by omega)
      refine lv_lload_n hx hb dX0_allWater_64 rfl (lv_at hl 1 rfl) ?_
      exact fin_l hx hb hr hlocks hP hD hS (rfl) dX0_allWater_65
    | succ n ih =>
      intro ki hcntki H locs hP hD hS ls hl
      have hltki : ki < 20 := by omega
      refine lv_iload_n hx hb dX0_allWater_4 rfl (lv_at hl 2 rfl) ?_
      refine lv_bipush (v := nI 20) hx hb dX0_allWater_5 (by decide) ?_
      refine ci_ge (tgt := 64) hx hb dX0_allWater_7 (by decide) (nT (by omega)) (nT (by omega)) (fun c_7 => by omega) (fun c_7 => ?_)
      refine lv_iconst (v := nI 0) hx hb dX0_allWater_10 (by decide) ?_
      refine lv_istore (lv' := [(4, .int (nI 0)), (0, .ref h0), (1, .long (AWs C (30 * ki))), (3, .int (nI ki))]) hx hb dX0_allWater_11 hl (by decide) rfl (fun ls hl => ?_)
      have lp13 : ∀ (n la : Nat), la + n = 10 → ∀ (H : Heap) (locs : List Loc), va_P D vwCl [(h0, .inr (0, [.ref a1])), (a1, .inl (cI, 600, .inl (nA C)))] H → va_D A [(h0, .inr (0, [.ref a1])), (a1, .inl (cI, 600, .inl (nA C)))] → va_S A s.heap H locs → ∀ (ls : Array Slot), lv_has ls 6 [(0, .ref h0), (1, .long (AWs C (30 * ki + 3 * la))), (3, .int (nI ki)), (4, .int (nI la))] → W p l e (headSpec wsX0_allWater ({ frames := 2, cells := 0, slots := 0, locals := 46 } : Room)).room s m args below meth c H locs 0 0 (MQ below (Ql9 D A [(h0, .inr (0, [.ref a1])), (a1, .inl (cI, 600, .inl (nA C)))] (AWs C 600)) args s 0 0 A) (F0 m 13 ls []) := by
        intro n
        induction n with
        | zero =>
          intro la hcntla H locs hP hD hS ls hl
          obtain rfl : 10 = la := by omega
          refine lv_iload hx hb dX0_allWater_13 (lv_at hl 3 rfl) ?_
          refine lv_bipush (v := nI 10) hx hb dX0_allWater_15 (by decide) ?_
          refine ci_ge (tgt := 58) hx hb dX0_allWater_17 (by decide) (nT (by omega)) (nT (by omega)) (fun c_17 => ?_) (fun c_17 => by omega)
          refine lv_iinc (v := nI (ki + 1)) (lv' := [(3, .int (nI (ki + 1))), (0, .ref h0), (1, .long (AWs C (30 * ki + 3 * 10))), (4, .int (nI 10))]) hx hb dX0_allWater_58 hl (k := 2) rfl (n_inc ki) (by decide) rfl (fun ls hl => ?_)
          refine lv_goto (tgt := 4) hx hb dX0_allWater_61 (by decide) ?_
          have hle : ([(0, .ref h0), (1, .long (AWs C (30 * (ki + 1)))), (3, .int (nI (ki + 1)))] : List (Nat × Value)) = [(0, .ref h0), (1, .long (AWs C (30 * ki + 3 * 10))), (3, .int (nI (ki + 1)))] := rfl
          exact ih (ki + 1) (by omega) H locs hP hD hS ls (by rw [hle]; exact lv_sub hl [1, 2, 0] rfl)
        | succ n ih =>
          intro la hcntla H locs hP hD hS ls hl
          have hltla : la < 10 := by omega
          refine lv_iload hx hb dX0_allWater_13 (lv_at hl 3 rfl) ?_
          refine lv_bipush (v := nI 10) hx hb dX0_allWater_15 (by decide) ?_
          refine ci_ge (tgt := 58) hx hb dX0_allWater_17 (by decide) (nT (by omega)) (nT (by omega)) (fun c_17 => by omega) (fun c_17 => ?_)
          refine lv_iconst (v := nI 1) hx hb dX0_allWater_20 (by decide) ?_
          refine lv_istore (lv' := [(5, .int (nI 1)), (0, .ref h0), (1, .long (AWs C (30 * ki + 3 * la))), (3, .int (nI ki)), (4, .int (nI la))]) hx hb dX0_allWater_21 hl (by decide) rfl (fun ls hl => ?_)
          have lp23 : ∀ (n z : Nat), z + n = 3 → ∀ (H : Heap) (locs : List Loc), va_P D vwCl [(h0, .inr (0, [.ref a1])), (a1, .inl (cI, 600, .inl (nA C)))] H → va_D A [(h0, .inr (0, [.ref a1])), (a1, .inl (cI, 600, .inl (nA C)))] → va_S A s.heap H locs → ∀ (ls : Array Slot), lv_has ls 6 [(0, .ref h0), (1, .long (AWs C (30 * ki + 3 * la + z))), (3, .int (nI ki)), (4, .int (nI la)), (5, .int (nI (z + 1)))] → W p l e (headSpec wsX0_allWater ({ frames := 2, cells := 0, slots := 0, locals := 46 } : Room)).room s m args below meth c H locs 0 0 (MQ below (Ql9 D A [(h0, .inr (0, [.ref a1])), (a1, .inl (cI, 600, .inl (nA C)))] (AWs C 600)) args s 0 0 A) (F0 m 23 ls []) := by
            intro n
            induction n with
            | zero =>
              intro z hcntz H locs hP hD hS ls hl
              obtain rfl : 3 = z := by omega
              refine lv_iload hx hb dX0_allWater_23 (lv_at hl 4 rfl) ?_
              refine lv_iconst (v := nI 3) hx hb dX0_allWater_25 (by decide) ?_
              refine ci_gt (tgt := 52) hx hb dX0_allWater_26 (by decide) (nT (by omega)) (nT (by omega)) (fun c_26 => ?_) (fun c_26 => by omega)
              refine lv_iinc (v := nI (la + 1)) (lv' := [(4, .int (nI (la + 1))), (0, .ref h0), (1, .long (AWs C (30 * ki + 3 * la + 3))), (3, .int (nI ki)), (5, .int (nI (3 + 1)))]) hx hb dX0_allWater_52 hl (k := 3) rfl (n_inc la) (by decide) rfl (fun ls hl => ?_)
              refine lv_goto (tgt := 13) hx hb dX0_allWater_55 (by decide) ?_
              have hle : ([(0, .ref h0), (1, .long (AWs C (30 * ki + 3 * (la + 1)))), (3, .int (nI ki)), (4, .int (nI (la + 1)))] : List (Nat × Value)) = [(0, .ref h0), (1, .long (AWs C (30 * ki + 3 * la + 3))), (3, .int (nI ki)), (4, .int (nI (la + 1)))] := rfl
              exact ih (la + 1) (by omega) H locs hP hD hS ls (by rw [hle]; exact lv_sub hl [1, 2, 3, 0] rfl)
            | succ n ih =>
              intro z hcntz H locs hP hD hS ls hl
              have hltz : z < 3 := by omega
              refine lv_iload hx hb dX0_allWater_23 (lv_at hl 4 rfl) ?_
              refine lv_iconst (v := nI 3) hx hb dX0_allWater_25 (by decide) ?_
              refine ci_gt (tgt := 52) hx hb dX0_allWater_26 (by decide) (nT (by omega)) (nT (by omega)) (fun c_26 => by omega) (fun c_26 => ?_)
              refine lv_lload_n hx hb dX0_allWater_29 rfl (lv_at hl 1 rfl) ?_
              refine lv_iload hx hb dX0_allWater_30 (lv_at hl 4 rfl) ?_
              refine lv_aload_n hx hb dX0_allWater_32 rfl (lv_at hl 0 rfl) ?_
              refine lv_iload_n hx hb dX0_allWater_33 rfl (lv_at hl 2 rfl) ?_
              refine lv_iload hx hb dX0_allWater_34 (lv_at hl 3 rfl) ?_
              refine lv_iload hx hb dX0_allWater_36 (lv_at hl 4 rfl) ?_
              refine cr_i (wc := [(h0, .inr (0, [.ref a1])), (a1, .inl (cI, 600, .inl (nA C)))]) (w1 := [(h0, .inr (0, [.ref a1])), (a1, .inl (cI, 600, .inl (nA C)))]) (ws2 := [(h0, .inr (0, [.ref a1])), (a1, .inl (cI, 600, .inl (nA C)))]) hP hD hS hA [0, 1] rfl rfl rfl (va_runV (As := [.int (nI ki), .int (nI la), .int (nI (z + 1))]) (rest := [.int (nI (z + 1)), .long (AWs C (30 * ki + 3 * la + z))]) ⟨hx, hb, hml, hown, hts⟩ (c_X0_manyAt_in l D cI cJ cZ h0 a1 C ki la (z + 1) (by omega) (by omega) (by omega) (by omega) H.size) (cwV 3 hts gX0_allWater_X0_manyAt rfl rfl rfl (by decide +kernel) ⟨Nat.le_of_ble_eq_true rfl, Nat.le_of_ble_eq_true rfl⟩) (pvV hT hP hD [0, 1] rfl rfl 0 rfl rfl) rfl rfl hl.1 rfl (lv_room (Nat.le_of_ble_eq_true rfl)) dX0_allWater_38 ⟨Nat.zero_le _, Nat.zero_le _⟩) (fun H locs hP hD hS => ?_)
              refine cr_l (wc := []) (w1 := []) (ws2 := [(h0, .inr (0, [.ref a1])), (a1, .inl (cI, 600, .inl (nA C)))]) hP hD hS hA [] rfl rfl rfl (va_runSN (As := [.int (nI (z + 1)), .int (nI (C (30 * ki + 3 * la + ((z + 1) - 1))))]) (rest := [.long (AWs C (30 * ki + 3 * la + z))]) ⟨hx, hb, hml, hown, hts⟩ (c_X5_waterOf l D cI cJ cZ (z + 1) (C (30 * ki + 3 * la + ((z + 1) - 1))) H.size) ⟨va_cnB 2 hts gX0_allWater_X5_waterOf_n25 rfl rfl rfl hT.2.2.2.2.2.2.2.1 (hts (.initialized RX5) (by decide +kernel)) (by decide +kernel) ⟨Nat.le_of_ble_eq_true rfl, Nat.le_of_ble_eq_true rfl⟩, hts (.static yX5_waterOf) (by decide +kernel), trivial⟩ (pvS hT hP hD [] rfl rfl) rfl rfl hl.1 rfl (lv_room (Nat.le_of_ble_eq_true rfl)) dX0_allWater_41 ⟨Nat.zero_le _, Nat.zero_le _⟩) (fun H locs hP hD hS => ?_)
              refine lv_ladd hx hb dX0_allWater_44 ?_
              refine lv_lstore_n (lv' := [(1, .long ((AWs C (30 * ki + 3 * la + z)) + (wtr (z + 1) (C (30 * ki + 3 * la + ((z + 1) - 1)))))), (0, .ref h0), (3, .int (nI ki)), (4, .int (nI la)), (5, .int (nI (z + 1)))]) hx hb dX0_allWater_45 rfl hl (by decide) rfl (fun ls hl => ?_)
              refine lv_iinc (v := nI (z + 1 + 1)) (lv' := [(5, .int (nI (z + 1 + 1))), (1, .long ((AWs C (30 * ki + 3 * la + z)) + (wtr (z + 1) (C (30 * ki + 3 * la + ((z + 1) - 1)))))), (0, .ref h0), (3, .int (nI ki)), (4, .int (nI la))]) hx hb dX0_allWater_46 hl (k := 4) rfl (n_inc (z + 1)) (by decide) rfl (fun ls hl => ?_)
              refine lv_goto (tgt := 23) hx hb dX0_allWater_49 (by decide) ?_
              have hle : ([(0, .ref h0), (1, .long (AWs C (30 * ki + 3 * la + (z + 1)))), (3, .int (nI ki)), (4, .int (nI la)), (5, .int (nI ((z + 1) + 1)))] : List (Nat × Value)) = [(0, .ref h0), (1, .long ((AWs C (30 * ki + 3 * la + z)) + (wtr (z + 1) (C (30 * ki + 3 * la + ((z + 1) - 1)))))), (3, .int (nI ki)), (4, .int (nI la)), (5, .int (nI (z + 1 + 1)))] := (by rw [AW_st hltz])
              exact ih (z + 1) (by omega) H locs hP hD hS ls (by rw [hle]; exact lv_sub hl [2, 1, 3, 4, 0] rfl)
          have hle : ([(0, .ref h0), (1, .long (AWs C (30 * ki + 3 * la + 0))), (3, .int (nI ki)), (4, .int (nI la)), (5, .int (nI (0 + 1)))] : List (Nat × Value)) = [(0, .ref h0), (1, .long (AWs C (30 * ki + 3 * la))), (3, .int (nI ki)), (4, .int (nI la)), (5, .int (nI 1))] := rfl
          exact lp23 3 0 (by omega) H locs hP hD hS ls (by rw [hle]; exact lv_sub hl [1, 2, 3, 4, 0] rfl)
      have hle : ([(0, .ref h0), (1, .long (AWs C (30 * ki + 3 * 0))), (3, .int (nI ki)), (4, .int (nI 0))] : List (Nat × Value)) = [(0, .ref h0), (1, .long (AWs C (30 * ki))), (3, .int (nI ki)), (4, .int (nI 0))] := rfl
      exact lp13 10 0 (by omega) H locs hP hD hS ls (by rw [hle]; exact lv_sub hl [1, 2, 3, 0] rfl)
  have hle : ([(0, .ref h0), (1, .long (AWs C (30 * 0))), (3, .int (nI 0))] : List (Nat × Value)) = [(0, .ref h0), (1, .long 0), (3, .int (nI 0))] := rfl
  exact lp4 20 0 (by omega) H locs hP hD hS ls (by rw [hle]; exact lv_sub hl [2, 1, 0] rfl)
