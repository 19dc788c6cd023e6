set_option maxHeartbeats 4000000 in
set_option maxRecDepth 100000 in
theorem c_X6_clear (l : Launch) (D : va_G) (cI cJ cZ : ClassId) (h0 : Nat) (thr : Nat) (mi : Nat) (me : Nat) (dp : Nat) (up : Bool) (dn : Nat) (ma : Nat) (mx : Nat) (mh : Nat) (mg : Nat) (mc : Nat) (mo : Nat) (mr : Nat) (mf : Nat) (mk : Nat) (ml : Nat) (wp : Int64) (wl : Int64) (ru : Nat) (sm : Nat) (NX : Nat → Nat) (sz : Nat) : Met l yX6_clear wsX6_clear ({ frames := 0, cells := 0, slots := 0, locals := 0 } : Room) (va_Pc [.ref h0] (mPre D cI cJ cZ [(h0, .inr (6, [.int (nI thr), .int (nI mi), .int (nI me), .int (nI dp), .int (bI up), .int (nI dn), .ref ma, .ref mx, .ref mh, .ref mg, .ref mc, .ref mo, .ref mr, .ref mf, .long wp, .long wl, .int (nI ru), .int (nI sm), .ref mk, .ref ml])), (mx, .inl (cI, 600, .inl (nA NX)))] sz)) (Qv9 D (va_A [(h0, .inr (6, [.int (nI thr), .int (nI mi), .int (nI me), .int (nI dp), .int (bI up), .int (nI dn), .ref ma, .ref mx, .ref mh, .ref mg, .ref mc, .ref mo, .ref mr, .ref mf, .long wp, .long wl, .int (nI ru), .int (nI sm), .ref mk, .ref ml])), (mx, .inl (cI, 600, .inl (nA NX)))] sz) [(h0, .inr (6, [.int (nI thr), .int (nI mi), .int (nI me), .int (nI dp), .int (bI up), .int (nI dn), .ref ma, .ref mx, .ref mh, .ref mg, .ref mc, .ref mo, .ref mr, .ref mf, .long wp, .long wl, .int (nI ru), .int (nI sm), .ref mk, .ref ml])), (mx, .inl (cI, 600, .inl (nA (clr 0 NX 600))))]) 0 0 (va_A [(h0, .inr (6, [.int (nI thr), .int (nI mi), .int (nI me), .int (nI dp), .int (bI up), .int (nI dn), .ref ma, .ref mx, .ref mh, .ref mg, .ref mc, .ref mo, .ref mr, .ref mf, .long wp, .long wl, .int (nI ru), .int (nI sm), .ref mk, .ref ml])), (mx, .inl (cI, 600, .inl (nA NX)))] sz) := by
  refine Met.ofW (cc := cX6_clear) (maxL := 2) (ret := none) (by decide) rfl ?_
  intro p e s m args below meth c s₁ B hml hv
  obtain ⟨hargs, hsz, hP, hT, hD0⟩ := hv
  have hx := B.exec
  have hb := B.bytes
  have hr := B.returns
  have hts := atoms_spec (ws := wsX6_clear) B.pre
  have hown : s.vm.findClass RX6 = some m.cls := findClass_of_methodNamed B.named
  have hlocks := B.notSynchronized
  subst hsz
  have hK := hT.1
  have hD := hD0.self (sz := s.heap.size)
  generalize hAe : va_A [(h0, .inr (6, [.int (nI thr), .int (nI mi), .int (nI me), .int (nI dp), .int (bI up), .int (nI dn), .ref ma, .ref mx, .ref mh, .ref mg, .ref mc, .ref mo, .ref mr, .ref mf, .long wp, .long wl, .int (nI ru), .int (nI sm), .ref mk, .ref ml])), (mx, .inl (cI, 600, .inl (nA NX)))] s.heap.size = A at hD ⊢
  have hA : ∀ q : Nat, s.heap.size ≤ q → A q := fun q h => by rw [← hAe]; exact Or.inr h
  have hS : va_S A s.heap s.heap [] := va_S.rf
  obtain ⟨H, hHe⟩ : ∃ H : Heap, H = s.heap := ⟨_, rfl⟩
  have hS : va_S A s.heap H [] := by rw [hHe]; exact va_S.rf
  rw [← hHe] at hP
  suffices K0 : W p l e (headSpec wsX6_clear ({ frames := 0, cells := 0, slots := 0, locals := 0 } : Room)).room s m args below meth c H [] 0 0 (MQ below (Qv9 D A [(h0, .inr (6, [.int (nI thr), .int (nI mi), .int (nI me), .int (nI dp), .int (bI up), .int (nI dn), .ref ma, .ref mx, .ref mh, .ref mg, .ref mc, .ref mo, .ref mr, .ref mf, .long wp, .long wl, .int (nI ru), .int (nI sm), .ref mk, .ref ml])), (mx, .inl (cI, 600, .inl (nA (clr 0 NX 600))))]) args s 0 0 A) (entryFrame m args 2) by rw [hHe] at K0; exact K0
  refine W.eq (g2 := entryFrame m ([.ref h0] : List Value).toArray 2) (by rw [hargs]) ?_
  have hl := lv_entry ([.ref h0]) (n := 2) (Nat.le_of_ble_eq_true rfl)
  rw [lg_entry_eq]
  generalize (lg_sl ([.ref h0]) ++ List.replicate (2 - (lg_sl ([.ref h0])).length) Slot.unset).toArray = ls at hl ⊢
  have hl : lv_has ls 2 [(0, .ref h0)] := hl
  generalize ([] : List Loc) = locs at hS ⊢
  have hinX6 : ∀ w ∈ wsX60, w ∈ wsX6_clear := by decide +kernel
  have hf17 := hts (.fieldLink RX6 17 "BrightbandModel" "next" "[I") (by decide +kernel)
  refine lv_iconst (v := nI 0) hx hb dX6_clear_0 (by decide) ?_
  refine lv_istore_n (lv' := [(1, .int (nI 0)), (0, .ref h0)]) hx hb dX6_clear_1 rfl hl (by decide) rfl (fun ls hl => ?_)
  have lp2 : ∀ (n i : Nat), i + n = 600 → ∀ (H : Heap) (locs : List Loc), va_P D vwCl [(h0, .inr (6, [.int (nI thr), .int (nI mi), .int (nI me), .int (nI dp), .int (bI up), .int (nI dn), .ref ma, .ref mx, .ref mh, .ref mg, .ref mc, .ref mo, .ref mr, .ref mf, .long wp, .long wl, .int (nI ru), .int (nI sm), .ref mk, .ref ml])), (mx, .inl (cI, 600, .inl (nA (clr 0 NX i))))] H → va_D A [(h0, .inr (6, [.int (nI thr), .int (nI mi), .int (nI me), .int (nI dp), .int (bI up), .int (nI dn), .ref ma, .ref mx, .ref mh, .ref mg, .ref mc, .ref mo, .ref mr, .ref mf, .long wp, .long wl, .int (nI ru), .int (nI sm), .ref mk, .ref ml])), (mx, .inl (cI, 600, .inl (nA (clr 0 NX i))))] → va_S A s.heap H locs → ∀ (ls : Array Slot), lv_has ls 2 [(0, .ref h0), (1, .int (nI i))] → W p l e (headSpec wsX6_clear ({ frames := 0, cells := 0, slots := 0, locals := 0 } : Room)).room s m args below meth c H locs 0 0 (MQ below (Qv9 D A [(h0, .inr (6, [.int (nI thr), .int (nI mi), .int (nI me), .int (nI dp), .int (bI up), .int (nI dn), .ref ma, .ref mx, .ref mh, .ref mg, .ref mc, .ref mo, .ref mr, .ref mf, .long wp, .long wl, .int (nI ru), .int (nI sm), .ref mk, .ref ml])), (mx, .inl (cI, 600, .inl (nA (clr 0 NX 600))))]) args s 0 0 A) (F0 m 2 ls []) := by
    intro n
    induction n with
    | zero =>
      intro i hcnti H locs hP hD hS ls hl
      obtain rfl : 600 = i := by omega
      refine lv_iload_n hx hb dX6_clear_2 rfl (lv_at hl 1 rfl) ?_
      refine lv_sipush (v := nI 600) hx hb dX6_clear_3 (by decide) ?_
      refine ci_ge (tgt := 22) hx hb dX6_clear_6 (by decide) (nT (by omega)) (nT (by omega)) (fun c_6 => ?_) (fun c_6 => by omega)
      exact fin_v hx hb hr hlocks hP hD hS dX6_clear_22
    | succ n ih =>
      intro i hcnti H locs hP hD hS ls hl
      have hlti : i < 600 := by omega
      refine lv_iload_n hx hb dX6_clear_2 rfl (lv_at hl 1 rfl) ?_
      refine lv_sipush (v := nI 600) hx hb dX6_clear_3 (by decide) ?_
      refine ci_ge (tgt := 22) hx hb dX6_clear_6 (by decide) (nT (by omega)) (nT (by omega)) (fun c_6 => by omega) (fun c_6 => ?_)
      refine lv_aload_n hx hb dX6_clear_9 rfl (lv_at hl 0 rfl) ?_
      refine va_get (D := D) (ci := 6) (v := .ref mx) (C := RX6) (T := TX6) (N := 20) hx hb hts hinX6 hown hK hP 0 rfl rfl 7 (by decide) hf17 (fun _ h9 => h9) rfl dX6_clear_10 ?_
      refine lv_iload_n hx hb dX6_clear_13 rfl (lv_at hl 1 rfl) ?_
      refine lv_iconst (v := nI 0) hx hb dX6_clear_14 (by decide) ?_
      refine ast_N (x := 0) hx hb hK hP hD hS 1 0 rfl rfl i rfl (by omega) (Nat.le_of_ble_eq_true rfl) dX6_clear_15 (fun H locs hP hD hS => ?_)
      have hP : va_P D vwCl [(h0, .inr (6, [.int (nI thr), .int (nI mi), .int (nI me), .int (nI dp), .int (bI up), .int (nI dn), .ref ma, .ref mx, .ref mh, .ref mg, .ref mc, .ref mo, .ref mr, .ref mf, .long wp, .long wl, .int (nI ru), .int (nI sm), .ref mk, .ref ml])), (mx, .inl (cI, 600, .inl (nA (uN (clr 0 NX i) i 0))))] H := hP
      have hD : va_D A [(h0, .inr (6, [.int (nI thr), .int (nI mi), .int (nI me), .int (nI dp), .int (bI up), .int (nI dn), .ref ma, .ref mx, .ref mh, .ref mg, .ref mc, .ref mo, .ref mr, .ref mf, .long wp, .long wl, .int (nI ru), .int (nI sm), .ref mk, .ref ml])), (mx, .inl (cI, 600, .inl (nA (uN (clr 0 NX i) i 0))))] := hD
      refine lv_iinc (v := nI (i + 1)) (lv' := [(1, .int (nI (i + 1))), (0, .ref h0)]) hx hb dX6_clear_16 hl (k := 1) rfl (n_inc i) (by decide) rfl (fun ls hl => ?_)
      refine lv_goto (tgt := 2) hx hb dX6_clear_19 (by decide) ?_
      have hwe : ([(h0, .inr (6, [.int (nI thr), .int (nI mi), .int (nI me), .int (nI dp), .int (bI up), .int (nI dn), .ref ma, .ref mx, .ref mh, .ref mg, .ref mc, .ref mo, .ref mr, .ref mf, .long wp, .long wl, .int (nI ru), .int (nI sm), .ref mk, .ref ml])), (mx, .inl (cI, 600, .inl (nA (clr 0 NX (i + 1)))))] : va_W) = [(h0, .inr (6, [.int (nI thr), .int (nI mi), .int (nI me), .int (nI dp), .int (bI up), .int (nI dn), .ref ma, .ref mx, .ref mh, .ref mg, .ref mc, .ref mo, .ref mr, .ref mf, .long wp, .long wl, .int (nI ru), .int (nI sm), .ref mk, .ref ml])), (mx, .inl (cI, 600, .inl (nA (uN (clr 0 NX i) i 0))))] := rfl
      exact ih (i + 1) (by omega) H locs (by rw [hwe]; exact hP) (by rw [hwe]; exact hD) hS ls (lv_sub hl [1, 0] rfl)
  have hwe : ([(h0, .inr (6, [.int (nI thr), .int (nI mi), .int (nI me), .int (nI dp), .int (bI up), .int (nI dn), .ref ma, .ref mx, .ref mh, .ref mg, .ref mc, .ref mo, .ref mr, .ref mf, .long wp, .long wl, .int (nI ru), .int (nI sm), .ref mk, .ref ml])), (mx, .inl (cI, 600, .inl (nA (clr 0 NX 0))))] : va_W) = [(h0, .inr (6, [.int (nI thr), .int (nI mi), .int (nI me), .int (nI dp), .int (bI up), .int (nI dn), .ref ma, .ref mx, .ref mh, .ref mg, .ref mc, .ref mo, .ref mr, .ref mf, .long wp, .long wl, .int (nI ru), .int (nI sm), .ref mk, .ref ml])), (mx, .inl (cI, 600, .inl (nA NX)))] := rfl
  exact lp2 600 0 (by omega) H locs (by rw [hwe]; exact hP) (by rw [hwe]; exact hD) hS ls (lv_sub hl [1, 0] rfl)
set_option maxHeartbeats 4000000 in
set_option maxRecDepth 100000 in
theorem c_X6_swap (l : Launch) (D : va_G) (cI cJ cZ : ClassId) (h0 : Nat) (thr : Nat) (mi : Nat) (me : Nat) (dp : Nat) (up : Bool) (dn : Nat) (ma : Nat) (mx : Nat) (mh : Nat) (mg : Nat) (mc : Nat) (mo : Nat) (mr : Nat) (mf : Nat) (mk : Nat) (ml : Nat) (wp : Int64) (wl : Int64) (ru : Nat) (sm : Nat) (sz : Nat) : Met l yX6_swap wsX6_swap ({ frames := 0, cells := 0, slots := 0, locals := 0 } : Room) (va_Pc [.ref h0] (mPre D cI cJ cZ [(h0, .inr (6, [.int (nI thr), .int (nI mi), .int (nI me), .int (nI dp), .int (bI up), .int (nI dn), .ref ma, .ref mx, .ref mh, .ref mg, .ref mc, .ref mo, .ref mr, .ref mf, .long wp, .long wl, .int (nI ru), .int (nI sm), .ref mk, .ref ml]))] sz)) (Qv9 D (va_A [(h0, .inr (6, [.int (nI thr), .int (nI mi), .int (nI me), .int (nI dp), .int (bI up), .int (nI dn), .ref ma, .ref mx, .ref mh, .ref mg, .ref mc, .ref mo, .ref mr, .ref mf, .long wp, .long wl, .int (nI ru), .int (nI sm), .ref mk, .ref ml]))] sz) [(h0, .inr (6, [.int (nI thr), .int (nI mi), .int (nI me), .int (nI dp), .int (bI up), .int (nI dn), .ref mx, .ref ma, .ref mh, .ref mg, .ref mc, .ref mo, .ref mr, .ref mf, .long wp, .long wl, .int (nI ru), .int (nI sm), .ref mk, .ref ml]))]) 0 0 (va_A [(h0, .inr (6, [.int (nI thr), .int (nI mi), .int (nI me), .int (nI dp), .int (bI up), .int (nI dn), .ref ma, .ref mx, .ref mh, .ref mg, .ref mc, .ref mo, .ref mr, .ref mf, .long wp, .long wl, .int (nI ru), .int (nI sm), .ref mk, .ref ml]))] sz) := by
  refine Met.ofW (cc := cX6_swap) (maxL := 2) (ret := none) (by decide) rfl ?_
  intro p e s m args below meth c s₁ B hml hv
  obtain ⟨hargs, hsz, hP, hT, hD0⟩ := hv
  have hx := B.exec
  have hb := B.bytes
  have hr := B.returns
  have hts := atoms_spec (ws := wsX6_swap) B.pre
  have hown : s.vm.findClass RX6 = some m.cls := findClass_of_methodNamed B.named
  have hlocks := B.notSynchronized
  subst hsz
  have hK := hT.1
  have hD := hD0.self (sz := s.heap.size)
  generalize hAe : va_A [(h0, .inr (6, [.int (nI thr), .int (nI mi), .int (nI me), .int (nI dp), .int (bI up), .int (nI dn), .ref ma, .ref mx, .ref mh, .ref mg, .ref mc, .ref mo, .ref mr, .ref mf, .long wp, .long wl, .int (nI ru), .int (nI sm), .ref mk, .ref ml]))] s.heap.size = A at hD ⊢
  have hA : ∀ q : Nat, s.heap.size ≤ q → A q := fun q h => by rw [← hAe]; exact Or.inr h
  have hS : va_S A s.heap s.heap [] := va_S.rf
  obtain ⟨H, hHe⟩ : ∃ H : Heap, H = s.heap := ⟨_, rfl⟩
  have hS : va_S A s.heap H [] := by rw [hHe]; exact va_S.rf
  rw [← hHe] at hP
  suffices K0 : W p l e (headSpec wsX6_swap ({ frames := 0, cells := 0, slots := 0, locals := 0 } : Room)).room s m args below meth c H [] 0 0 (MQ below (Qv9 D A [(h0, .inr (6, [.int (nI thr), .int (nI mi), .int (nI me), .int (nI dp), .int (bI up), .int (nI dn), .ref mx, .ref ma, .ref mh, .ref mg, .ref mc, .ref mo, .ref mr, .ref mf, .long wp, .long wl, .int (nI ru), .int (nI sm), .ref mk, .ref ml]))]) args s 0 0 A) (entryFrame m args 2) by rw [hHe] at K0; exact K0
  refine W.eq (g2 := entryFrame m ([.ref h0] : List Value).toArray 2) (by rw [hargs]) ?_
  have hl := lv_entry ([.ref h0]) (n := 2) (Nat.le_of_ble_eq_true rfl)
  rw [lg_entry_eq]
  generalize (lg_sl ([.ref h0]) ++ List.replicate (2 - (lg_sl ([.ref h0])).length) Slot.unset).toArray = ls at hl ⊢
  have hl : lv_has ls 2 [(0, .ref h0)] := hl
  generalize ([] : List Loc) = locs at hS ⊢
  have hinX6 : ∀ w ∈ wsX60, w ∈ wsX6_swap := by decide +kernel
  have hf13 := hts (.fieldLink RX6 13 "BrightbandModel" "air" "[I") (by decide +kernel)
  have hf17 := hts (.fieldLink RX6 17 "BrightbandModel" "next" "[I") (by decide +kernel)
  refine lv_aload_n hx hb dX6_swap_0 rfl (lv_at hl 0 rfl) ?_
  refine va_get (D := D) (ci := 6) (v := .ref ma) (C := RX6) (T := TX6) (N := 20) hx hb hts hinX6 hown hK hP 0 rfl rfl 6 (by decide) hf13 (fun _ h9 => h9) rfl dX6_swap_1 ?_
  refine lv_astore_n (lv' := [(1, .ref ma), (0, .ref h0)]) hx hb dX6_swap_4 rfl hl (by decide) rfl (fun ls hl => ?_)
  refine lv_aload_n hx hb dX6_swap_5 rfl (lv_at hl 1 rfl) ?_
  refine lv_aload_n hx hb dX6_swap_6 rfl (lv_at hl 1 rfl) ?_
  refine va_get (D := D) (ci := 6) (v := .ref mx) (C := RX6) (T := TX6) (N := 20) hx hb hts hinX6 hown hK hP 0 rfl rfl 7 (by decide) hf17 (fun _ h9 => h9) rfl dX6_swap_7 ?_
  refine va_put (D := D) (ci := 6) (v := .ref mx) (ty := (.array .int)) (C := RX6) (T := TX6) (N := 20) hx hb hts hinX6 tyX6 tyX6_ok nmX6 hown hK hP hD hS 0 rfl rfl 6 (by decide) hf13 (fun _ h9 => h9) rfl (by decide +kernel) rfl rfl (Nat.le_of_ble_eq_true rfl) dX6_swap_10 (fun H locs hP hD hS => ?_)
  have hP : va_P D vwCl [(h0, .inr (6, [.int (nI thr), .int (nI mi), .int (nI me), .int (nI dp), .int (bI up), .int (nI dn), .ref mx, .ref mx, .ref mh, .ref mg, .ref mc, .ref mo, .ref mr, .ref mf, .long wp, .long wl, .int (nI ru), .int (nI sm), .ref mk, .ref ml]))] H := hP
  have hD : va_D A [(h0, .inr (6, [.int (nI thr), .int (nI mi), .int (nI me), .int (nI dp), .int (bI up), .int (nI dn), .ref mx, .ref mx, .ref mh, .ref mg, .ref mc, .ref mo, .ref mr, .ref mf, .long wp, .long wl, .int (nI ru), .int (nI sm), .ref mk, .ref ml]))] := hD
  refine lv_aload_n hx hb dX6_swap_13 rfl (lv_at hl 1 rfl) ?_
  refine lv_aload_n hx hb dX6_swap_14 rfl (lv_at hl 0 rfl) ?_
  refine va_put (D := D) (ci := 6) (v := .ref ma) (ty := (.array .int)) (C := RX6) (T := TX6) (N := 20) hx hb hts hinX6 tyX6 tyX6_ok nmX6 hown hK hP hD hS 0 rfl rfl 7 (by decide) hf17 (fun _ h9 => h9) rfl (by decide +kernel) rfl rfl (Nat.le_of_ble_eq_true rfl) dX6_swap_15 (fun H locs hP hD hS => ?_)
  have hP : va_P D vwCl [(h0, .inr (6, [.int (nI thr), .int (nI mi), .int (nI me), .int (nI dp), .int (bI up), .int (nI dn), .ref mx, .ref ma, .ref mh, .ref mg, .ref mc, .ref mo, .ref mr, .ref mf, .long wp, .long wl, .int (nI ru), .int (nI sm), .ref mk, .ref ml]))] H := hP
  have hD : va_D A [(h0, .inr (6, [.int (nI thr), .int (nI mi), .int (nI me), .int (nI dp), .int (bI up), .int (nI dn), .ref mx, .ref ma, .ref mh, .ref mg, .ref mc, .ref mo, .ref mr, .ref mf, .long wp, .long wl, .int (nI ru), .int (nI sm), .ref mk, .ref ml]))] := hD
  exact fin_v hx hb hr hlocks hP hD hS dX6_swap_18
set_option maxHeartbeats 4000000 in
set_option maxRecDepth 100000 in
theorem c_X6_fall (l : Launch) (D : va_G) (cI cJ cZ : ClassId) (h0 : Nat) (thr : Nat) (mi : Nat) (me : Nat) (dp : Nat) (up : Bool) (dn : Nat) (ma : Nat) (mx : Nat) (mh : Nat) (mg : Nat) (mc : Nat) (mo : Nat) (mr : Nat) (mf : Nat) (mk : Nat) (ml : Nat) (wp : Int64) (wl : Int64) (ru : Nat) (sm : Nat) (C : Nat → Nat) (NX : Nat → Nat) (UP : Nat → Bool) (CL : Nat → Bool) (CO : Nat → Int64) (GR : Nat → Int64) (FA : Nat → Int64) (hme : me < 10) (sz : Nat) : Met l yX6_fall wsX6_fall ({ frames := 1, cells := 0, slots := 0, locals := 21 } : Room) (va_Pc [.ref h0] (mPre D cI cJ cZ [(h0, .inr (6, [.int (nI thr), .int (nI mi), .int (nI me), .int (nI dp), .int (bI up), .int (nI dn), .ref ma, .ref mx, .ref mh, .ref mg, .ref mc, .ref mo, .ref mr, .ref mf, .long wp, .long wl, .int (nI ru), .int (nI sm), .ref mk, .ref ml])), (ma, .inl (cI, 600, .inl (nA C))), (mx, .inl (cI, 600, .inl (nA NX))), (mg, .inl (cZ, 20, .inl (bA UP))), (mc, .inl (cZ, 20, .inl (bA CL))), (mo, .inl (cJ, 20, .inr (.inl CO))), (mr, .inl (cJ, 20, .inr (.inl GR))), (mf, .inl (cJ, 20, .inr (.inl FA)))] sz)) (Qv9 D (va_A [(h0, .inr (6, [.int (nI thr), .int (nI mi), .int (nI me), .int (nI dp), .int (bI up), .int (nI dn), .ref ma, .ref mx, .ref mh, .ref mg, .ref mc, .ref mo, .ref mr, .ref mf, .long wp, .long wl, .int (nI ru), .int (nI sm), .ref mk, .ref ml])), (ma, .inl (cI, 600, .inl (nA C))), (mx, .inl (cI, 600, .inl (nA NX))), (mg, .inl (cZ, 20, .inl (bA UP))), (mc, .inl (cZ, 20, .inl (bA CL))), (mo, .inl (cJ, 20, .inr (.inl CO))), (mr, .inl (cJ, 20, .inr (.inl GR))), (mf, .inl (cJ, 20, .inr (.inl FA)))] sz) [(h0, .inr (6, [.int (nI thr), .int (nI mi), .int (nI me), .int (nI dp), .int (bI up), .int (nI dn), .ref mx, .ref ma, .ref mh, .ref mg, .ref mc, .ref mo, .ref mr, .ref mf, .long wp, .long wl, .int (nI ru), .int (nI sm), .ref mk, .ref ml])), (ma, .inl (cI, 600, .inl (nA C))), (mx, .inl (cI, 600, .inl (nA (NXf me C (clr 0 NX 600) 600)))), (mg, .inl (cZ, 20, .inl (bA UP))), (mc, .inl (cZ, 20, .inl (bA CL))), (mo, .inl (cJ, 20, .inr (.inl (COm UP CL CO (FAf me C (clr 0 FA 20) 600) 20)))), (mr, .inl (cJ, 20, .inr (.inl (GRm GR (FAf me C (clr 0 FA 20) 600) 20)))), (mf, .inl (cJ, 20, .inr (.inl (FAf me C (clr 0 FA 20) 600))))]) 0 0 (va_A [(h0, .inr (6, [.int (nI thr), .int (nI mi), .int (nI me), .int (nI dp), .int (bI up), .int (nI dn), .ref ma, .ref mx, .ref mh, .ref mg, .ref mc, .ref mo, .ref mr, .ref mf, .long wp, .long wl, .int (nI ru), .int (nI sm), .ref mk, .ref ml])), (ma, .inl (cI, 600, .inl (nA C))), (mx, .inl (cI, 600, .inl (nA NX))), (mg, .inl (cZ, 20, .inl (bA UP))), (mc, .inl (cZ, 20, .inl (bA CL))), (mo, .inl (cJ, 20, .inr (.inl CO))), (mr, .inl (cJ, 20, .inr (.inl GR))), (mf, .inl (cJ, 20, .inr (.inl FA)))] sz) := by
  refine Met.ofW (cc := cX6_fall) (maxL := 5) (ret := none) (by decide) rfl ?_
  intro p e s m args below meth c s₁ B hml hv
  obtain ⟨hargs, hsz, hP, hT, hD0⟩ := hv
  have hx := B.exec
  have hb := B.bytes
  have hr := B.returns
  have hts := atoms_spec (ws := wsX6_fall) B.pre
  have hown : s.vm.findClass RX6 = some m.cls := findClass_of_methodNamed B.named
  have hlocks := B.notSynchronized
  subst hsz
  have hK := hT.1
  have hD := hD0.self (sz := s.heap.size)
  generalize hAe : va_A [(h0, .inr (6, [.int (nI thr), .int (nI mi), .int (nI me), .int (nI dp), .int (bI up), .int (nI dn), .ref ma, .ref mx, .ref mh, .ref mg, .ref mc, .ref mo, .ref mr, .ref mf, .long wp, .long wl, .int (nI ru), .int (nI sm), .ref mk, .ref ml])), (ma, .inl (cI, 600, .inl (nA C))), (mx, .inl (cI, 600, .inl (nA NX))), (mg, .inl (cZ, 20, .inl (bA UP))), (mc, .inl (cZ, 20, .inl (bA CL))), (mo, .inl (cJ, 20, .inr (.inl CO))), (mr, .inl (cJ, 20, .inr (.inl GR))), (mf, .inl (cJ, 20, .inr (.inl FA)))] s.heap.size = A at hD ⊢
  have hA : ∀ q : Nat, s.heap.size ≤ q → A q := fun q h => by rw [← hAe]; exact Or.inr h
  have hS : va_S A s.heap s.heap [] := va_S.rf
  obtain ⟨H, hHe⟩ : ∃ H : Heap, H = s.heap := ⟨_, rfl⟩
  have hS : va_S A s.heap H [] := by rw [hHe]; exact va_S.rf
  rw [← hHe] at hP
  suffices K0 : W p l e (headSpec wsX6_fall ({ frames := 1, cells := 0, slots := 0, locals := 21 } : Room)).room s m args below meth c H [] 0 0 (MQ below (Qv9 D A [(h0, .inr (6, [.int (nI thr), .int (nI mi), .int (nI me), .int (nI dp), .int (bI up), .int (nI dn), .ref mx, .ref ma, .ref mh, .ref mg, .ref mc, .ref mo, .ref mr, .ref mf, .long wp, .long wl, .int (nI ru), .int (nI sm), .ref mk, .ref ml])), (ma, .inl (cI, 600, .inl (nA C))), (mx, .inl (cI, 600, .inl (nA (NXf me C (clr 0 NX 600) 600)))), (mg, .inl (cZ, 20, .inl (bA UP))), (mc, .inl (cZ, 20, .inl (bA CL))), (mo, .inl (cJ, 20, .inr (.inl (COm UP CL CO (FAf me C (clr 0 FA 20) 600) 20)))), (mr, .inl (cJ, 20, .inr (.inl (GRm GR (FAf me C (clr 0 FA 20) 600) 20)))), (mf, .inl (cJ, 20, .inr (.inl (FAf me C (clr 0 FA 20) 600))))]) args s 0 0 A) (entryFrame m args 5) by rw [hHe] at K0; exact K0
  refine W.eq (g2 := entryFrame m ([.ref h0] : List Value).toArray 5) (by rw [hargs]) ?_
  have hl := lv_entry ([.ref h0]) (n := 5) (Nat.le_of_ble_eq_true rfl)
  rw [lg_entry_eq]
  generalize (lg_sl ([.ref h0]) ++ List.replicate (5 - (lg_sl ([.ref h0])).length) Slot.unset).toArray = ls at hl ⊢
  have hl : lv_has ls 5 [(0, .ref h0)] := hl
  generalize ([] : List Loc) = locs at hS ⊢
  have hinX6 : ∀ w ∈ wsX60, w ∈ wsX6_fall := by decide +kernel
  have hf34 := hts (.fieldLink RX6 34 "BrightbandModel" "ground" "[J") (by decide +kernel)
  have hf37 := hts (.fieldLink RX6 37 "BrightbandModel" "falls" "[J") (by decide +kernel)
  have hf30 := hts (.fieldLink RX6 30 "BrightbandModel" "collected" "[J") (by decide +kernel)
  have hf23 := hts (.fieldLink RX6 23 "BrightbandModel" "hasGauge" "[Z") (by decide +kernel)
  have hf27 := hts (.fieldLink RX6 27 "BrightbandModel" "isClogged" "[Z") (by decide +kernel)
  have hc90 := hts (.constantLong RX6 90 (2)) (by decide +kernel)
  have hf17 := hts (.fieldLink RX6 17 "BrightbandModel" "next" "[I") (by decide +kernel)
  have hf13 := hts (.fieldLink RX6 13 "BrightbandModel" "air" "[I") (by decide +kernel)
  refine lv_aload_n hx hb dX6_fall_0 rfl (lv_at hl 0 rfl) ?_
  refine cr_v (wc := [(h0, .inr (6, [.int (nI thr), .int (nI mi), .int (nI me), .int (nI dp), .int (bI up), .int (nI dn), .ref ma, .ref mx, .ref mh, .ref mg, .ref mc, .ref mo, .ref mr, .ref mf, .long wp, .long wl, .int (nI ru), .int (nI sm), .ref mk, .ref ml])), (mx, .inl (cI, 600, .inl (nA NX)))]) (w1 := [(h0, .inr (6, [.int (nI thr), .int (nI mi), .int (nI me), .int (nI dp), .int (bI up), .int (nI dn), .ref ma, .ref mx, .ref mh, .ref mg, .ref mc, .ref mo, .ref mr, .ref mf, .long wp, .long wl, .int (nI ru), .int (nI sm), .ref mk, .ref ml])), (mx, .inl (cI, 600, .inl (nA (clr 0 NX 600))))]) (ws2 := [(h0, .inr (6, [.int (nI thr), .int (nI mi), .int (nI me), .int (nI dp), .int (bI up), .int (nI dn), .ref ma, .ref mx, .ref mh, .ref mg, .ref mc, .ref mo, .ref mr, .ref mf, .long wp, .long wl, .int (nI ru), .int (nI sm), .ref mk, .ref ml])), (ma, .inl (cI, 600, .inl (nA C))), (mx, .inl (cI, 600, .inl (nA (clr 0 NX 600)))), (mg, .inl (cZ, 20, .inl (bA UP))), (mc, .inl (cZ, 20, .inl (bA CL))), (mo, .inl (cJ, 20, .inr (.inl CO))), (mr, .inl (cJ, 20, .inr (.inl GR))), (mf, .inl (cJ, 20, .inr (.inl FA)))]) hP hD hS hA [0, 2] rfl rfl rfl (va_runV (As := []) (rest := []) ⟨hx, hb, hml, hown, hts⟩ (c_X6_clear l D cI cJ cZ h0 thr mi me dp up dn ma mx mh mg mc mo mr mf mk ml wp wl ru sm NX H.size) (cwV 0 hts gX6_fall_X6_clear rfl rfl rfl (by decide +kernel) ⟨Nat.le_of_ble_eq_true rfl, Nat.le_of_ble_eq_true rfl⟩) (pvV hT hP hD [0, 2] rfl rfl 0 rfl rfl) rfl rfl hl.1 rfl (lv_room (Nat.le_of_ble_eq_true rfl)) dX6_fall_1 ⟨Nat.zero_le _, Nat.zero_le _⟩) (fun H locs hP hD hS => ?_)
  refine lv_iconst (v := nI 0) hx hb dX6_fall_4 (by decide) ?_
  refine lv_istore_n (lv' := [(1, .int (nI 0)), (0, .ref h0)]) hx hb dX6_fall_5 rfl hl (by decide) rfl (fun ls hl => ?_)
  have lp6 : ∀ (n k : Nat), k + n = 20 → ∀ (H : Heap) (locs : List Loc), va_P D vwCl [(h0, .inr (6, [.int (nI thr), .int (nI mi), .int (nI me), .int (nI dp), .int (bI up), .int (nI dn), .ref ma, .ref mx, .ref mh, .ref mg, .ref mc, .ref mo, .ref mr, .ref mf, .long wp, .long wl, .int (nI ru), .int (nI sm), .ref mk, .ref ml])), (ma, .inl (cI, 600, .inl (nA C))), (mx, .inl (cI, 600, .inl (nA (clr 0 NX 600)))), (mg, .inl (cZ, 20, .inl (bA UP))), (mc, .inl (cZ, 20, .inl (bA CL))), (mo, .inl (cJ, 20, .inr (.inl CO))), (mr, .inl (cJ, 20, .inr (.inl GR))), (mf, .inl (cJ, 20, .inr (.inl (clr 0 FA k))))] H → va_D A [(h0, .inr (6, [.int (nI thr), .int (nI mi), .int (nI me), .int (nI dp), .int (bI up), .int (nI dn), .ref ma, .ref mx, .ref mh, .ref mg, .ref mc, .ref mo, .ref mr, .ref mf, .long wp, .long wl, .int (nI ru), .int (nI sm), .ref mk, .ref ml])), (ma, .inl (cI, 600, .inl (nA C))), (mx, .inl (cI, 600, .inl (nA (clr 0 NX 600)))), (mg, .inl (cZ, 20, .inl (bA UP))), (mc, .inl (cZ, 20, .inl (bA CL))), (mo, .inl (cJ, 20, .inr (.inl CO))), (mr, .inl (cJ, 20, .inr (.inl GR))), (mf, .inl (cJ, 20, .inr (.inl (clr 0 FA k))))] → va_S A s.heap H locs → ∀ (ls : Array Slot), lv_has ls 5 [(0, .ref h0), (1, .int (nI k))] → W p l e (headSpec wsX6_fall ({ frames := 1, cells := 0, slots := 0, locals := 21 } : Room)).room s m args below meth c H locs 0 0 (MQ below (Qv9 D A [(h0, .inr (6, [.int (nI thr), .int (nI mi), .int (nI me), .int (nI dp), .int (bI up), .int (nI dn), .ref mx, .ref ma, .ref mh, .ref mg, .ref mc, .ref mo, .ref mr, .ref mf, .long wp, .long wl, .int (nI ru), .int (nI sm), .ref mk, .ref ml])), (ma, .inl (cI, 600, .inl (nA C))), (mx, .inl (cI, 600, .inl (nA (NXf me C (clr 0 NX 600) 600)))), (mg, .inl (cZ, 20, .inl (bA UP))), (mc, .inl (cZ, 20, .inl (bA CL))), (mo, .inl (cJ, 20, .inr (.inl (COm UP CL CO (FAf me C (clr 0 FA 20) 600) 20)))), (mr, .inl (cJ, 20, .inr (.inl (GRm GR (FAf me C (clr 0 FA 20) 600) 20)))), (mf, .inl (cJ, 20, .inr (.inl (FAf me C (clr 0 FA 20) 600))))]) args s 0 0 A) (F0 m 6 ls []) := by
    intro n
    induction n with
    | zero =>
      intro k hcntk H locs hP hD hS ls hl
      obtain rfl : 20 = k := by omega
      refine lv_iload_n hx hb dX6_fall_6 rfl (lv_at hl 1 rfl) ?_
      refine lv_bipush (v := nI 20) hx hb dX6_fall_7 (by decide) ?_
      refine ci_ge (tgt := 25) hx hb dX6_fall_9 (by decide) (nT (by omega)) (nT (by omega)) (fun c_9 => ?_) (fun c_9 => by omega)
      refine lv_iconst (v := nI 0) hx hb dX6_fall_25 (by decide) ?_
      refine lv_istore_n (lv' := [(1, .int (nI 0)), (0, .ref h0)]) hx hb dX6_fall_26 rfl hl (by decide) rfl (fun ls hl => ?_)
      have lp27 : ∀ (n9 n : Nat), n + n9 = 600 → ∀ (H : Heap) (locs : List Loc), va_P D vwCl [(h0, .inr (6, [.int (nI thr), .int (nI mi), .int (nI me), .int (nI dp), .int (bI up), .int (nI dn), .ref ma, .ref mx, .ref mh, .ref mg, .ref mc, .ref mo, .ref mr, .ref mf, .long wp, .long wl, .int (nI ru), .int (nI sm), .ref mk, .ref ml])), (ma, .inl (cI, 600, .inl (nA C))), (mx, .inl (cI, 600, .inl (nA (NXf me C (clr 0 NX 600) n)))), (mg, .inl (cZ, 20, .inl (bA UP))), (mc, .inl (cZ, 20, .inl (bA CL))), (mo, .inl (cJ, 20, .inr (.inl CO))), (mr, .inl (cJ, 20, .inr (.inl GR))), (mf, .inl (cJ, 20, .inr (.inl (FAf me C (clr 0 FA 20) n))))] H → va_D A [(h0, .inr (6, [.int (nI thr), .int (nI mi), .int (nI me), .int (nI dp), .int (bI up), .int (nI dn), .ref ma, .ref mx, .ref mh, .ref mg, .ref mc, .ref mo, .ref mr, .ref mf, .long wp, .long wl, .int (nI ru), .int (nI sm), .ref mk, .ref ml])), (ma, .inl (cI, 600, .inl (nA C))), (mx, .inl (cI, 600, .inl (nA (NXf me C (clr 0 NX 600) n)))), (mg, .inl (cZ, 20, .inl (bA UP))), (mc, .inl (cZ, 20, .inl (bA CL))), (mo, .inl (cJ, 20, .inr (.inl CO))), (mr, .inl (cJ, 20, .inr (.inl GR))), (mf, .inl (cJ, 20, .inr (.inl (FAf me C (clr 0 FA 20) n))))] → va_S A s.heap H locs → ∀ (ls : Array Slot), lv_has ls 5 [(0, .ref h0), (1, .int (nI n))] → W p l e (headSpec wsX6_fall ({ frames := 1, cells := 0, slots := 0, locals := 21 } : Room)).room s m args below meth c H locs 0 0 (MQ below (Qv9 D A [(h0, .inr (6, [.int (nI thr), .int (nI mi), .int (nI me), .int (nI dp), .int (bI up), .int (nI dn), .ref mx, .ref ma, .ref mh, .ref mg, .ref mc, .ref mo, .ref mr, .ref mf, .long wp, .long wl, .int (nI ru), .int (nI sm), .ref mk, .ref ml])), (ma, .inl (cI, 600, .inl (nA C))), (mx, .inl (cI, 600, .inl (nA (NXf me C (clr 0 NX 600) 600)))), (mg, .inl (cZ, 20, .inl (bA UP))), (mc, .inl (cZ, 20, .inl (bA CL))), (mo, .inl (cJ, 20, .inr (.inl (COm UP CL CO (FAf me C (clr 0 FA 20) 600) 20)))), (mr, .inl (cJ, 20, .inr (.inl (GRm GR (FAf me C (clr 0 FA 20) 600) 20)))), (mf, .inl (cJ, 20, .inr (.inl (FAf me C (clr 0 FA 20) 600))))]) args s 0 0 A) (F0 m 27 ls []) := by
        intro n9
        induction n9 with
        | zero =>
          intro n hcntn H locs hP hD hS ls hl
          obtain rfl : 600 = n := by omega
          refine lv_iload_n hx hb dX6_fall_27 rfl (lv_at hl 1 rfl) ?_
          refine lv_sipush (v := nI 600) hx hb dX6_fall_28 (by decide) ?_
          refine ci_ge (tgt := 125) hx hb dX6_fall_31 (by decide) (nT (by omega)) (nT (by omega)) (fun c_31 => ?_) (fun c_31 => by omega)
          refine lv_aload_n hx hb dX6_fall_125 rfl (lv_at hl 0 rfl) ?_
          refine cr_v (wc := [(h0, .inr (6, [.int (nI thr), .int (nI mi), .int (nI me), .int (nI dp), .int (bI up), .int (nI dn), .ref ma, .ref mx, .ref mh, .ref mg, .ref mc, .ref mo, .ref mr, .ref mf, .long wp, .long wl, .int (nI ru), .int (nI sm), .ref mk, .ref ml]))]) (w1 := [(h0, .inr (6, [.int (nI thr), .int (nI mi), .int (nI me), .int (nI dp), .int (bI up), .int (nI dn), .ref mx, .ref ma, .ref mh, .ref mg, .ref mc, .ref mo, .ref mr, .ref mf, .long wp, .long wl, .int (nI ru), .int (nI sm), .ref mk, .ref ml]))]) (ws2 := [(h0, .inr (6, [.int (nI thr), .int (nI mi), .int (nI me), .int (nI dp), .int (bI up), .int (nI dn), .ref mx, .ref ma, .ref mh, .ref mg, .ref mc, .ref mo, .ref mr, .ref mf, .long wp, .long wl, .int (nI ru), .int (nI sm), .ref mk, .ref ml])), (ma, .inl (cI, 600, .inl (nA C))), (mx, .inl (cI, 600, .inl (nA (NXf me C (clr 0 NX 600) 600)))), (mg, .inl (cZ, 20, .inl (bA UP))), (mc, .inl (cZ, 20, .inl (bA CL))), (mo, .inl (cJ, 20, .inr (.inl CO))), (mr, .inl (cJ, 20, .inr (.inl GR))), (mf, .inl (cJ, 20, .inr (.inl (FAf me C (clr 0 FA 20) 600))))]) hP hD hS hA [0] rfl rfl rfl (va_runV (As := []) (rest := []) ⟨hx, hb, hml, hown, hts⟩ (c_X6_swap l D cI cJ cZ h0 thr mi me dp up dn ma mx mh mg mc mo mr mf mk ml wp wl ru sm H.size) (cwV 0 hts gX6_fall_X6_swap rfl rfl rfl (by decide +kernel) ⟨Nat.le_of_ble_eq_true rfl, Nat.le_of_ble_eq_true rfl⟩) (pvV hT hP hD [0] rfl rfl 0 rfl rfl) rfl rfl hl.1 rfl (lv_room (Nat.le_of_ble_eq_true rfl)) dX6_fall_126 ⟨Nat.zero_le _, Nat.zero_le _⟩) (fun H locs hP hD hS => ?_)
          refine lv_iconst (v := nI 0) hx hb dX6_fall_129 (by decide) ?_
          refine lv_istore_n (lv' := [(1, .int (nI 0)), (0, .ref h0)]) hx hb dX6_fall_130 rfl hl (by decide) rfl (fun ls hl => ?_)
          have lp131 : ∀ (n k : Nat), k + n = 20 → ∀ (H : Heap) (locs : List Loc), va_P D vwCl [(h0, .inr (6, [.int (nI thr), .int (nI mi), .int (nI me), .int (nI dp), .int (bI up), .int (nI dn), .ref mx, .ref ma, .ref mh, .ref mg, .ref mc, .ref mo, .ref mr, .ref mf, .long wp, .long wl, .int (nI ru), .int (nI sm), .ref mk, .ref ml])), (ma, .inl (cI, 600, .inl (nA C))), (mx, .inl (cI, 600, .inl (nA (NXf me C (clr 0 NX 600) 600)))), (mg, .inl (cZ, 20, .inl (bA UP))), (mc, .inl (cZ, 20, .inl (bA CL))), (mo, .inl (cJ, 20, .inr (.inl (COm UP CL CO (FAf me C (clr 0 FA 20) 600) k)))), (mr, .inl (cJ, 20, .inr (.inl (GRm GR (FAf me C (clr 0 FA 20) 600) k)))), (mf, .inl (cJ, 20, .inr (.inl (FAf me C (clr 0 FA 20) 600))))] H → va_D A [(h0, .inr (6, [.int (nI thr), .int (nI mi), .int (nI me), .int (nI dp), .int (bI up), .int (nI dn), .ref mx, .ref ma, .ref mh, .ref mg, .ref mc, .ref mo, .ref mr, .ref mf, .long wp, .long wl, .int (nI ru), .int (nI sm), .ref mk, .ref ml])), (ma, .inl (cI, 600, .inl (nA C))), (mx, .inl (cI, 600, .inl (nA (NXf me C (clr 0 NX 600) 600)))), (mg, .inl (cZ, 20, .inl (bA UP))), (mc, .inl (cZ, 20, .inl (bA CL))), (mo, .inl (cJ, 20, .inr (.inl (COm UP CL CO (FAf me C (clr 0 FA 20) 600) k)))), (mr, .inl (cJ, 20, .inr (.inl (GRm GR (FAf me C (clr 0 FA 20) 600) k)))), (mf, .inl (cJ, 20, .inr (.inl (FAf me C (clr 0 FA 20) 600))))] → va_S A s.heap H locs → ∀ (ls : Array Slot), lv_has ls 5 [(0, .ref h0), (1, .int (nI k))] → W p l e (headSpec wsX6_fall ({ frames := 1, cells := 0, slots := 0, locals := 21 } : Room)).room s m args below meth c H locs 0 0 (MQ below (Qv9 D A [(h0, .inr (6, [.int (nI thr), .int (nI mi), .int (nI me), .int (nI dp), .int (bI up), .int (nI dn), .ref mx, .ref ma, .ref mh, .ref mg, .ref mc, .ref mo, .ref mr, .ref mf, .long wp, .long wl, .int (nI ru), .int (nI sm), .ref mk, .ref ml])), (ma, .inl (cI, 600, .inl (nA C))), (mx, .inl (cI, 600, .inl (nA (NXf me C (clr 0 NX 600) 600)))), (mg, .inl (cZ, 20, .inl (bA UP))), (mc, .inl (cZ, 20, .inl (bA CL))), (mo, .inl (cJ, 20, .inr (.inl (COm UP CL CO (FAf me C (clr 0 FA 20) 600) 20)))), (mr, .inl (cJ, 20, .inr (.inl (GRm GR (FAf me C (clr 0 FA 20) 600) 20)))), (mf, .inl (cJ, 20, .inr (.inl (FAf me C (clr 0 FA 20) 600))))]) args s 0 0 A) (F0 m 131 ls []) := by
            intro n
            induction n with
            | zero =>
              intro k hcntk H locs hP hD hS ls hl
              obtain rfl : 20 = k := by omega
              refine lv_iload_n hx hb dX6_fall_131 rfl (lv_at hl 1 rfl) ?_
              refine lv_bipush (v := nI 20) hx hb dX6_fall_132 (by decide) ?_
              refine ci_ge (tgt := 208) hx hb dX6_fall_134 (by decide) (nT (by omega)) (nT (by omega)) (fun c_134 => ?_) (fun c_134 => by omega)
              exact fin_v hx hb hr hlocks hP hD hS dX6_fall_208
            | succ n ih =>
              intro k hcntk H locs hP hD hS ls hl
              have hltk : k < 20 := by omega
              refine lv_iload_n hx hb dX6_fall_131 rfl (lv_at hl 1 rfl) ?_
              refine lv_bipush (v := nI 20) hx hb dX6_fall_132 (by decide) ?_
              refine ci_ge (tgt := 208) hx hb dX6_fall_134 (by decide) (nT (by omega)) (nT (by omega)) (fun c_134 => by omega) (fun c_134 => ?_)
              refine lv_aload_n hx hb dX6_fall_137 rfl (lv_at hl 0 rfl) ?_
              refine va_get (D := D) (ci := 6) (v := .ref mr) (C := RX6) (T := TX6) (N := 20) hx hb hts hinX6 hown hK hP 0 rfl rfl 12 (by decide) hf34 (fun _ h9 => h9) rfl dX6_fall_138 ?_
              refine lv_iload_n hx hb dX6_fall_141 rfl (lv_at hl 1 rfl) ?_
              refine lv_dup2_11 hx hb dX6_fall_142 rfl rfl ?_
              refine ald_L hx hb hK hP 6 1 rfl rfl k rfl (by omega) (Nat.le_of_ble_eq_true rfl) dX6_fall_143 ?_
              refine lv_aload_n hx hb dX6_fall_144 rfl (lv_at hl 0 rfl) ?_
              refine va_get (D := D) (ci := 6) (v := .ref mf) (C := RX6) (T := TX6) (N := 20) hx hb hts hinX6 hown hK hP 0 rfl rfl 13 (by decide) hf37 (fun _ h9 => h9) rfl dX6_fall_145 ?_
              refine lv_iload_n hx hb dX6_fall_148 rfl (lv_at hl 1 rfl) ?_
              refine ald_L hx hb hK hP 7 1 rfl rfl k rfl (by omega) (Nat.le_of_ble_eq_true rfl) dX6_fall_149 ?_
              refine lv_ladd hx hb dX6_fall_150 ?_
              refine ast_L (x := ((GRm GR (FAf me C (clr 0 FA 20) 600) k) k) + ((FAf me C (clr 0 FA 20) 600) k)) hx hb hK hP hD hS 6 1 rfl rfl k rfl (by omega) (Nat.le_of_ble_eq_true rfl) dX6_fall_151 (fun H locs hP hD hS => ?_)
              have hP : va_P D vwCl [(h0, .inr (6, [.int (nI thr), .int (nI mi), .int (nI me), .int (nI dp), .int (bI up), .int (nI dn), .ref mx, .ref ma, .ref mh, .ref mg, .ref mc, .ref mo, .ref mr, .ref mf, .long wp, .long wl, .int (nI ru), .int (nI sm), .ref mk, .ref ml])), (ma, .inl (cI, 600, .inl (nA C))), (mx, .inl (cI, 600, .inl (nA (NXf me C (clr 0 NX 600) 600)))), (mg, .inl (cZ, 20, .inl (bA UP))), (mc, .inl (cZ, 20, .inl (bA CL))), (mo, .inl (cJ, 20, .inr (.inl (COm UP CL CO (FAf me C (clr 0 FA 20) 600) k)))), (mr, .inl (cJ, 20, .inr (.inl (uN (GRm GR (FAf me C (clr 0 FA 20) 600) k) k (((GRm GR (FAf me C (clr 0 FA 20) 600) k) k) + ((FAf me C (clr 0 FA 20) 600) k)))))), (mf, .inl (cJ, 20, .inr (.inl (FAf me C (clr 0 FA 20) 600))))] H := hP
              have hD : va_D A [(h0, .inr (6, [.int (nI thr), .int (nI mi), .int (nI me), .int (nI dp), .int (bI up), .int (nI dn), .ref mx, .ref ma, .ref mh, .ref mg, .ref mc, .ref mo, .ref mr, .ref mf, .long wp, .long wl, .int (nI ru), .int (nI sm), .ref mk, .ref ml])), (ma, .inl (cI, 600, .inl (nA C))), (mx, .inl (cI, 600, .inl (nA (NXf me C (clr 0 NX 600) 600)))), (mg, .inl (cZ, 20, .inl (bA UP))), (mc, .inl (cZ, 20, .inl (bA CL))), (mo, .inl (cJ, 20, .inr (.inl (COm UP CL CO (FAf me C (clr 0 FA 20) 600) k)))), (mr, .inl (cJ, 20, .inr (.inl (uN (GRm GR (FAf me C (clr 0 FA 20) 600) k) k (((GRm GR (FAf me C (clr 0 FA 20) 600) k) k) + ((FAf me C (clr 0 FA 20) 600) k)))))), (mf, .inl (cJ, 20, .inr (.inl (FAf me C (clr 0 FA 20) 600))))] := hD
              refine lv_aload_n hx hb dX6_fall_152 rfl (lv_at hl 0 rfl) ?_
              refine va_get (D := D) (ci := 6) (v := .ref mo) (C := RX6) (T := TX6) (N := 20) hx hb hts hinX6 hown hK hP 0 rfl rfl 11 (by decide) hf30 (fun _ h9 => h9) rfl dX6_fall_153 ?_
              refine lv_iload_n hx hb dX6_fall_156 rfl (lv_at hl 1 rfl) ?_
              refine lv_dup2_11 hx hb dX6_fall_157 rfl rfl ?_
              refine ald_L hx hb hK hP 5 1 rfl rfl k rfl (by omega) (Nat.le_of_ble_eq_true rfl) dX6_fall_158 ?_
              refine lv_aload_n hx hb dX6_fall_159 rfl (lv_at hl 0 rfl) ?_
              refine va_get (D := D) (ci := 6) (v := .ref mg) (C := RX6) (T := TX6) (N := 20) hx hb hts hinX6 hown hK hP 0 rfl rfl 9 (by decide) hf23 (fun _ h9 => h9) rfl dX6_fall_160 ?_
              refine lv_iload_n hx hb dX6_fall_163 rfl (lv_at hl 1 rfl) ?_
              refine ald_B hx hb hK hP 3 2 rfl rfl k rfl (by omega) (Nat.le_of_ble_eq_true rfl) dX6_fall_164 ?_
              refine cb_ne (tgt := 172) hx hb dX6_fall_165 (by decide) (fun c_165 => ?_) (fun c_165 => ?_)
              · refine lv_aload_n hx hb dX6_fall_172 rfl (lv_at hl 0 rfl) ?_
                refine va_get (D := D) (ci := 6) (v := .ref mc) (C := RX6) (T := TX6) (N := 20) hx hb hts hinX6 hown hK hP 0 rfl rfl 10 (by decide) hf27 (fun _ h9 => h9) rfl dX6_fall_173 ?_
                refine lv_iload_n hx hb dX6_fall_176 rfl (lv_at hl 1 rfl) ?_
                refine ald_B hx hb hK hP 4 2 rfl rfl k rfl (by omega) (Nat.le_of_ble_eq_true rfl) dX6_fall_177 ?_
                refine cb_eq (tgt := 194) hx hb dX6_fall_178 (by decide) (fun c_178 => ?_) (fun c_178 => ?_)
                · have hc9 : COm UP CL CO (FAf me C (clr 0 FA 20) 600) (k + 1) = uN (COm UP CL CO (FAf me C (clr 0 FA 20) 600) k) k (COm UP CL CO (FAf me C (clr 0 FA 20) 600) k k + FAf me C (clr 0 FA 20) 600 k) := by show uN _ _ (_ + (if UP k = true then (if CL k = true then FAf me C (clr 0 FA 20) 600 k / 2 else FAf me C (clr 0 FA 20) 600 k) else 0)) = _; rw [if_pos c_165, if_neg (by rw [c_178]; decide)]
                  refine lv_aload_n hx hb dX6_fall_194 rfl (lv_at hl 0 rfl) ?_
                  refine va_get (D := D) (ci := 6) (v := .ref mf) (C := RX6) (T := TX6) (N := 20) hx hb hts hinX6 hown hK hP 0 rfl rfl 13 (by decide) hf37 (fun _ h9 => h9) rfl dX6_fall_195 ?_
                  refine lv_iload_n hx hb dX6_fall_198 rfl (lv_at hl 1 rfl) ?_
                  refine ald_L hx hb hK hP 7 1 rfl rfl k rfl (by omega) (Nat.le_of_ble_eq_true rfl) dX6_fall_199 ?_
                  refine lv_ladd hx hb dX6_fall_200 ?_
                  refine ast_L (x := ((COm UP CL CO (FAf me C (clr 0 FA 20) 600) k) k) + ((FAf me C (clr 0 FA 20) 600) k)) hx hb hK hP hD hS 5 1 rfl rfl k rfl (by omega) (Nat.le_of_ble_eq_true rfl) dX6_fall_201 (fun H locs hP hD hS => ?_)
                  have hP : va_P D vwCl [(h0, .inr (6, [.int (nI thr), .int (nI mi), .int (nI me), .int (nI dp), .int (bI up), .int (nI dn), .ref mx, .ref ma, .ref mh, .ref mg, .ref mc, .ref mo, .ref mr, .ref mf, .long wp, .long wl, .int (nI ru), .int (nI sm), .ref mk, .ref ml])), (ma, .inl (cI, 600, .inl (nA C))), (mx, .inl (cI, 600, .inl (nA (NXf me C (clr 0 NX 600) 600)))), (mg, .inl (cZ, 20, .inl (bA UP))), (mc, .inl (cZ, 20, .inl (bA CL))), (mo, .inl (cJ, 20, .inr (.inl (uN (COm UP CL CO (FAf me C (clr 0 FA 20) 600) k) k (((COm UP CL CO (FAf me C (clr 0 FA 20) 600) k) k) + ((FAf me C (clr 0 FA 20) 600) k)))))), (mr, .inl (cJ, 20, .inr (.inl (uN (GRm GR (FAf me C (clr 0 FA 20) 600) k) k (((GRm GR (FAf me C (clr 0 FA 20) 600) k) k) + ((FAf me C (clr 0 FA 20) 600) k)))))), (mf, .inl (cJ, 20, .inr (.inl (FAf me C (clr 0 FA 20) 600))))] H := hP
                  have hD : va_D A [(h0, .inr (6, [.int (nI thr), .int (nI mi), .int (nI me), .int (nI dp), .int (bI up), .int (nI dn), .ref mx, .ref ma, .ref mh, .ref mg, .ref mc, .ref mo, .ref mr, .ref mf, .long wp, .long wl, .int (nI ru), .int (nI sm), .ref mk, .ref ml])), (ma, .inl (cI, 600, .inl (nA C))), (mx, .inl (cI, 600, .inl (nA (NXf me C (clr 0 NX 600) 600)))), (mg, .inl (cZ, 20, .inl (bA UP))), (mc, .inl (cZ, 20, .inl (bA CL))), (mo, .inl (cJ, 20, .inr (.inl (uN (COm UP CL CO (FAf me C (clr 0 FA 20) 600) k) k (((COm UP CL CO (FAf me C (clr 0 FA 20) 600) k) k) + ((FAf me C (clr 0 FA 20) 600) k)))))), (mr, .inl (cJ, 20, .inr (.inl (uN (GRm GR (FAf me C (clr 0 FA 20) 600) k) k (((GRm GR (FAf me C (clr 0 FA 20) 600) k) k) + ((FAf me C (clr 0 FA 20) 600) k)))))), (mf, .inl (cJ, 20, .inr (.inl (FAf me C (clr 0 FA 20) 600))))] := hD
                  refine lv_iinc (v := nI (k + 1)) (lv' := [(1, .int (nI (k + 1))), (0, .ref h0)]) hx hb dX6_fall_202 hl (k := 1) rfl (n_inc k) (by decide) rfl (fun ls hl => ?_)
                  refine lv_goto (tgt := 131) hx hb dX6_fall_205 (by decide) ?_
                  have hwe : ([(h0, .inr (6, [.int (nI thr), .int (nI mi), .int (nI me), .int (nI dp), .int (bI up), .int (nI dn), .ref mx, .ref ma, .ref mh, .ref mg, .ref mc, .ref mo, .ref mr, .ref mf, .long wp, .long wl, .int (nI ru), .int (nI sm), .ref mk, .ref ml])), (ma, .inl (cI, 600, .inl (nA C))), (mx, .inl (cI, 600, .inl (nA (NXf me C (clr 0 NX 600) 600)))), (mg, .inl (cZ, 20, .inl (bA UP))), (mc, .inl (cZ, 20, .inl (bA CL))), (mo, .inl (cJ, 20, .inr (.inl (COm UP CL CO (FAf me C (clr 0 FA 20) 600) (k + 1))))), (mr, .inl (cJ, 20, .inr (.inl (GRm GR (FAf me C (clr 0 FA 20) 600) (k + 1))))), (mf, .inl (cJ, 20, .inr (.inl (FAf me C (clr 0 FA 20) 600))))] : va_W) = [(h0, .inr (6, [.int (nI thr), .int (nI mi), .int (nI me), .int (nI dp), .int (bI up), .int (nI dn), .ref mx, .ref ma, .ref mh, .ref mg, .ref mc, .ref mo, .ref mr, .ref mf, .long wp, .long wl, .int (nI ru), .int (nI sm), .ref mk, .ref ml])), (ma, .inl (cI, 600, .inl (nA C))), (mx, .inl (cI, 600, .inl (nA (NXf me C (clr 0 NX 600) 600)))), (mg, .inl (cZ, 20, .inl (bA UP))), (mc, .inl (cZ, 20, .inl (bA CL))), (mo, .inl (cJ, 20, .inr (.inl (uN (COm UP CL CO (FAf me C (clr 0 FA 20) 600) k) k (((COm UP CL CO (FAf me C (clr 0 FA 20) 600) k) k) + ((FAf me C (clr 0 FA 20) 600) k)))))), (mr, .inl (cJ, 20, .inr (.inl (uN (GRm GR (FAf me C (clr 0 FA 20) 600) k) k (((GRm GR (FAf me C (clr 0 FA 20) 600) k) k) + ((FAf me C (clr 0 FA 20) 600) k)))))), (mf, .inl (cJ, 20, .inr (.inl (FAf me C (clr 0 FA 20) 600))))] := (by rw [hc9]; first | done | rfl)
                  exact ih (k + 1) (by omega) H locs (by rw [hwe]; exact hP) (by rw [hwe]; exact hD) hS ls (lv_sub hl [1, 0] rfl)
                · have hc9 : COm UP CL CO (FAf me C (clr 0 FA 20) 600) (k + 1) = uN (COm UP CL CO (FAf me C (clr 0 FA 20) 600) k) k (COm UP CL CO (FAf me C (clr 0 FA 20) 600) k k + FAf me C (clr 0 FA 20) 600 k / 2) := by show uN _ _ (_ + (if UP k = true then (if CL k = true then FAf me C (clr 0 FA 20) 600 k / 2 else FAf me C (clr 0 FA 20) 600 k) else 0)) = _; rw [if_pos c_165, if_pos c_178]
                  refine lv_aload_n hx hb dX6_fall_181 rfl (lv_at hl 0 rfl) ?_
                  refine va_get (D := D) (ci := 6) (v := .ref mf) (C := RX6) (T := TX6) (N := 20) hx hb hts hinX6 hown hK hP 0 rfl rfl 13 (by decide) hf37 (fun _ h9 => h9) rfl dX6_fall_182 ?_
                  refine lv_iload_n hx hb dX6_fall_185 rfl (lv_at hl 1 rfl) ?_
                  refine ald_L hx hb hK hP 7 1 rfl rfl k rfl (by omega) (Nat.le_of_ble_eq_true rfl) dX6_fall_186 ?_
                  refine lv_ldc2 (v := 2) hx hb hown hc90 dX6_fall_187 ?_
                  refine lv_ldiv hx hb dX6_fall_190 (by decide) ?_
                  refine lv_goto (tgt := 200) hx hb dX6_fall_191 (by decide) ?_
                  refine lv_ladd hx hb dX6_fall_200 ?_
                  refine ast_L (x := ((COm UP CL CO (FAf me C (clr 0 FA 20) 600) k) k) + (((FAf me C (clr 0 FA 20) 600) k) / 2)) hx hb hK hP hD hS 5 1 rfl rfl k rfl (by omega) (Nat.le_of_ble_eq_true rfl) dX6_fall_201 (fun H locs hP hD hS => ?_)
                  have hP : va_P D vwCl [(h0, .inr (6, [.int (nI thr), .int (nI mi), .int (nI me), .int (nI dp), .int (bI up), .int (nI dn), .ref mx, .ref ma, .ref mh, .ref mg, .ref mc, .ref mo, .ref mr, .ref mf, .long wp, .long wl, .int (nI ru), .int (nI sm), .ref mk, .ref ml])), (ma, .inl (cI, 600, .inl (nA C))), (mx, .inl (cI, 600, .inl (nA (NXf me C (clr 0 NX 600) 600)))), (mg, .inl (cZ, 20, .inl (bA UP))), (mc, .inl (cZ, 20, .inl (bA CL))), (mo, .inl (cJ, 20, .inr (.inl (uN (COm UP CL CO (FAf me C (clr 0 FA 20) 600) k) k (((COm UP CL CO (FAf me C (clr 0 FA 20) 600) k) k) + (((FAf me C (clr 0 FA 20) 600) k) / 2)))))), (mr, .inl (cJ, 20, .inr (.inl (uN (GRm GR (FAf me C (clr 0 FA 20) 600) k) k (((GRm GR (FAf me C (clr 0 FA 20) 600) k) k) + ((FAf me C (clr 0 FA 20) 600) k)))))), (mf, .inl (cJ, 20, .inr (.inl (FAf me C (clr 0 FA 20) 600))))] H := hP
                  have hD : va_D A [(h0, .inr (6, [.int (nI thr), .int (nI mi), .int (nI me), .int (nI dp), .int (bI up), .int (nI dn), .ref mx, .ref ma, .ref mh, .ref mg, .ref mc, .ref mo, .ref mr, .ref mf, .long wp, .long wl, .int (nI ru), .int (nI sm), .ref mk, .ref ml])), (ma, .inl (cI, 600, .inl (nA C))), (mx, .inl (cI, 600, .inl (nA (NXf me C (clr 0 NX 600) 600)))), (mg, .inl (cZ, 20, .inl (bA UP))), (mc, .inl (cZ, 20, .inl (bA CL))), (mo, .inl (cJ, 20, .inr (.inl (uN (COm UP CL CO (FAf me C (clr 0 FA 20) 600) k) k (((COm UP CL CO (FAf me C (clr 0 FA 20) 600) k) k) + (((FAf me C (clr 0 FA 20) 600) k) / 2)))))), (mr, .inl (cJ, 20, .inr (.inl (uN (GRm GR (FAf me C (clr 0 FA 20) 600) k) k (((GRm GR (FAf me C (clr 0 FA 20) 600) k) k) + ((FAf me C (clr 0 FA 20) 600) k)))))), (mf, .inl (cJ, 20, .inr (.inl (FAf me C (clr 0 FA 20) 600))))] := hD
                  refine lv_iinc (v := nI (k + 1)) (lv' := [(1, .int (nI (k + 1))), (0, .ref h0)]) hx hb dX6_fall_202 hl (k := 1) rfl (n_inc k) (by decide) rfl (fun ls hl => ?_)
                  refine lv_goto (tgt := 131) hx hb dX6_fall_205 (by decide) ?_
                  have hwe : ([(h0, .inr (6, [.int (nI thr), .int (nI mi), .int (nI me), .int (nI dp), .int (bI up), .int (nI dn), .ref mx, .ref ma, .ref mh, .ref mg, .ref mc, .ref mo, .ref mr, .ref mf, .long wp, .long wl, .int (nI ru), .int (nI sm), .ref mk, .ref ml])), (ma, .inl (cI, 600, .inl (nA C))), (mx, .inl (cI, 600, .inl (nA (NXf me C (clr 0 NX 600) 600)))), (mg, .inl (cZ, 20, .inl (bA UP))), (mc, .inl (cZ, 20, .inl (bA CL))), (mo, .inl (cJ, 20, .inr (.inl (COm UP CL CO (FAf me C (clr 0 FA 20) 600) (k + 1))))), (mr, .inl (cJ, 20, .inr (.inl (GRm GR (FAf me C (clr 0 FA 20) 600) (k + 1))))), (mf, .inl (cJ, 20, .inr (.inl (FAf me C (clr 0 FA 20) 600))))] : va_W) = [(h0, .inr (6, [.int (nI thr), .int (nI mi), .int (nI me), .int (nI dp), .int (bI up), .int (nI dn), .ref mx, .ref ma, .ref mh, .ref mg, .ref mc, .ref mo, .ref mr, .ref mf, .long wp, .long wl, .int (nI ru), .int (nI sm), .ref mk, .ref ml])), (ma, .inl (cI, 600, .inl (nA C))), (mx, .inl (cI, 600, .inl (nA (NXf me C (clr 0 NX 600) 600)))), (mg, .inl (cZ, 20, .inl (bA UP))), (mc, .inl (cZ, 20, .inl (bA CL))), (mo, .inl (cJ, 20, .inr (.inl (uN (COm UP CL CO (FAf me C (clr 0 FA 20) 600) k) k (((COm UP CL CO (FAf me C (clr 0 FA 20) 600) k) k) + (((FAf me C (clr 0 FA 20) 600) k) / 2)))))), (mr, .inl (cJ, 20, .inr (.inl (uN (GRm GR (FAf me C (clr 0 FA 20) 600) k) k (((GRm GR (FAf me C (clr 0 FA 20) 600) k) k) + ((FAf me C (clr 0 FA 20) 600) k)))))), (mf, .inl (cJ, 20, .inr (.inl (FAf me C (clr 0 FA 20) 600))))] := (by rw [hc9]; first | done | rfl)
                  exact ih (k + 1) (by omega) H locs (by rw [hwe]; exact hP) (by rw [hwe]; exact hD) hS ls (lv_sub hl [1, 0] rfl)
              · have hc9 : COm UP CL CO (FAf me C (clr 0 FA 20) 600) (k + 1) = uN (COm UP CL CO (FAf me C (clr 0 FA 20) 600) k) k (COm UP CL CO (FAf me C (clr 0 FA 20) 600) k k + 0) := by show uN _ _ (_ + (if UP k = true then (if CL k = true then FAf me C (clr 0 FA 20) 600 k / 2 else FAf me C (clr 0 FA 20) 600 k) else 0)) = _; rw [if_neg (by rw [c_165]; decide)]
                refine lv_lconst (v := 0) hx hb dX6_fall_168 (by decide) ?_
                refine lv_goto (tgt := 200) hx hb dX6_fall_169 (by decide) ?_
                refine lv_ladd hx hb dX6_fall_200 ?_
                refine ast_L (x := ((COm UP CL CO (FAf me C (clr 0 FA 20) 600) k) k) + 0) hx hb hK hP hD hS 5 1 rfl rfl k rfl (by omega) (Nat.le_of_ble_eq_true rfl) dX6_fall_201 (fun H locs hP hD hS => ?_)
                have hP : va_P D vwCl [(h0, .inr (6, [.int (nI thr), .int (nI mi), .int (nI me), .int (nI dp), .int (bI up), .int (nI dn), .ref mx, .ref ma, .ref mh, .ref mg, .ref mc, .ref mo, .ref mr, .ref mf, .long wp, .long wl, .int (nI ru), .int (nI sm), .ref mk, .ref ml])), (ma, .inl (cI, 600, .inl (nA C))), (mx, .inl (cI, 600, .inl (nA (NXf me C (clr 0 NX 600) 600)))), (mg, .inl (cZ, 20, .inl (bA UP))), (mc, .inl (cZ, 20, .inl (bA CL))), (mo, .inl (cJ, 20, .inr (.inl (uN (COm UP CL CO (FAf me C (clr 0 FA 20) 600) k) k (((COm UP CL CO (FAf me C (clr 0 FA 20) 600) k) k) + 0))))), (mr, .inl (cJ, 20, .inr (.inl (uN (GRm GR (FAf me C (clr 0 FA 20) 600) k) k (((GRm GR (FAf me C (clr 0 FA 20) 600) k) k) + ((FAf me C (clr 0 FA 20) 600) k)))))), (mf, .inl (cJ, 20, .inr (.inl (FAf me C (clr 0 FA 20) 600))))] H := hP
                have hD : va_D A [(h0, .inr (6, [.int (nI thr), .int (nI mi), .int (nI me), .int (nI dp), .int (bI up), .int (nI dn), .ref mx, .ref ma, .ref mh, .ref mg, .ref mc, .ref mo, .ref mr, .ref mf, .long wp, .long wl, .int (nI ru), .int (nI sm), .ref mk, .ref ml])), (ma, .inl (cI, 600, .inl (nA C))), (mx, .inl (cI, 600, .inl (nA (NXf me C (clr 0 NX 600) 600)))), (mg, .inl (cZ, 20, .inl (bA UP))), (mc, .inl (cZ, 20, .inl (bA CL))), (mo, .inl (cJ, 20, .inr (.inl (uN (COm UP CL CO (FAf me C (clr 0 FA 20) 600) k) k (((COm UP CL CO (FAf me C (clr 0 FA 20) 600) k) k) + 0))))), (mr, .inl (cJ, 20, .inr (.inl (uN (GRm GR (FAf me C (clr 0 FA 20) 600) k) k (((GRm GR (FAf me C (clr 0 FA 20) 600) k) k) + ((FAf me C (clr 0 FA 20) 600) k)))))), (mf, .inl (cJ, 20, .inr (.inl (FAf me C (clr 0 FA 20) 600))))] := hD
                refine lv_iinc (v := nI (k + 1)) (lv' := [(1, .int (nI (k + 1))), (0, .ref h0)]) hx hb dX6_fall_202 hl (k := 1) rfl (n_inc k) (by decide) rfl (fun ls hl => ?_)
                refine lv_goto (tgt := 131) hx hb dX6_fall_205 (by decide) ?_
                have hwe : ([(h0, .inr (6, [.int (nI thr), .int (nI mi), .int (nI me), .int (nI dp), .int (bI up), .int (nI dn), .ref mx, .ref ma, .ref mh, .ref mg, .ref mc, .ref mo, .ref mr, .ref mf, .long wp, .long wl, .int (nI ru), .int (nI sm), .ref mk, .ref ml])), (ma, .inl (cI, 600, .inl (nA C))), (mx, .inl (cI, 600, .inl (nA (NXf me C (clr 0 NX 600) 600)))), (mg, .inl (cZ, 20, .inl (bA UP))), (mc, .inl (cZ, 20, .inl (bA CL))), (mo, .inl (cJ, 20, .inr (.inl (COm UP CL CO (FAf me C (clr 0 FA 20) 600) (k + 1))))), (mr, .inl (cJ, 20, .inr (.inl (GRm GR (FAf me C (clr 0 FA 20) 600) (k + 1))))), (mf, .inl (cJ, 20, .inr (.inl (FAf me C (clr 0 FA 20) 600))))] : va_W) = [(h0, .inr (6, [.int (nI thr), .int (nI mi), .int (nI me), .int (nI dp), .int (bI up), .int (nI dn), .ref mx, .ref ma, .ref mh, .ref mg, .ref mc, .ref mo, .ref mr, .ref mf, .long wp, .long wl, .int (nI ru), .int (nI sm), .ref mk, .ref ml])), (ma, .inl (cI, 600, .inl (nA C))), (mx, .inl (cI, 600, .inl (nA (NXf me C (clr 0 NX 600) 600)))), (mg, .inl (cZ, 20, .inl (bA UP))), (mc, .inl (cZ, 20, .inl (bA CL))), (mo, .inl (cJ, 20, .inr (.inl (uN (COm UP CL CO (FAf me C (clr 0 FA 20) 600) k) k (((COm UP CL CO (FAf me C (clr 0 FA 20) 600) k) k) + 0))))), (mr, .inl (cJ, 20, .inr (.inl (uN (GRm GR (FAf me C (clr 0 FA 20) 600) k) k (((GRm GR (FAf me C (clr 0 FA 20) 600) k) k) + ((FAf me C (clr 0 FA 20) 600) k)))))), (mf, .inl (cJ, 20, .inr (.inl (FAf me C (clr 0 FA 20) 600))))] := (by rw [hc9]; first | done | rfl)
                exact ih (k + 1) (by omega) H locs (by rw [hwe]; exact hP) (by rw [hwe]; exact hD) hS ls (lv_sub hl [1, 0] rfl)
          have hwe : ([(h0, .inr (6, [.int (nI thr), .int (nI mi), .int (nI me), .int (nI dp), .int (bI up), .int (nI dn), .ref mx, .ref ma, .ref mh, .ref mg, .ref mc, .ref mo, .ref mr, .ref mf, .long wp, .long wl, .int (nI ru), .int (nI sm), .ref mk, .ref ml])), (ma, .inl (cI, 600, .inl (nA C))), (mx, .inl (cI, 600, .inl (nA (NXf me C (clr 0 NX 600) 600)))), (mg, .inl (cZ, 20, .inl (bA UP))), (mc, .inl (cZ, 20, .inl (bA CL))), (mo, .inl (cJ, 20, .inr (.inl (COm UP CL CO (FAf me C (clr 0 FA 20) 600) 0)))), (mr, .inl (cJ, 20, .inr (.inl (GRm GR (FAf me C (clr 0 FA 20) 600) 0)))), (mf, .inl (cJ, 20, .inr (.inl (FAf me C (clr 0 FA 20) 600))))] : va_W) = [(h0, .inr (6, [.int (nI thr), .int (nI mi), .int (nI me), .int (nI dp), .int (bI up), .int (nI dn), .ref mx, .ref ma, .ref mh, .ref mg, .ref mc, .ref mo, .ref mr, .ref mf, .long wp, .long wl, .int (nI ru), .int (nI sm), .ref mk, .ref ml])), (ma, .inl (cI, 600, .inl (nA C))), (mx, .inl (cI, 600, .inl (nA (NXf me C (clr 0 NX 600) 600)))), (mg, .inl (cZ, 20, .inl (bA UP))), (mc, .inl (cZ, 20, .inl (bA CL))), (mo, .inl (cJ, 20, .inr (.inl CO))), (mr, .inl (cJ, 20, .inr (.inl GR))), (mf, .inl (cJ, 20, .inr (.inl (FAf me C (clr 0 FA 20) 600))))] := rfl
          exact lp131 20 0 (by omega) H locs (by rw [hwe]; exact hP) (by rw [hwe]; exact hD) hS ls (lv_sub hl [1, 0] rfl)
        | succ n9 ih =>
          intro n hcntn H locs hP hD hS ls hl
          have hltn : n < 600 := by omega
          refine lv_iload_n hx hb dX6_fall_27 rfl (lv_at hl 1 rfl) ?_
          refine lv_sipush (v := nI 600) hx hb dX6_fall_28 (by decide) ?_
          refine ci_ge (tgt := 125) hx hb dX6_fall_31 (by decide) (nT (by omega)) (nT (by omega)) (fun c_31 => by omega) (fun c_31 => ?_)
          refine lv_iload_n hx hb dX6_fall_34 rfl (lv_at hl 1 rfl) ?_
          refine lv_iconst (v := nI 3) hx hb dX6_fall_35 (by decide) ?_
          refine lv_idiv hx hb dX6_fall_36 (by decide) ?_
          refine tp_i (pk_div (by omega) (by omega) (by omega)) ?_
          refine lv_bipush (v := nI 10) hx hb dX6_fall_37 (by decide) ?_
          refine lv_irem hx hb dX6_fall_39 (by decide) ?_
          refine tp_i (pk_rem (by omega) (by omega) (by omega)) ?_
          refine lv_istore_n (lv' := [(2, .int (nI ((n / 3) % 10))), (0, .ref h0), (1, .int (nI n))]) hx hb dX6_fall_40 rfl hl (by decide) rfl (fun ls hl => ?_)
          refine lv_iload_n hx hb dX6_fall_41 rfl (lv_at hl 2 rfl) ?_
          refine lv_iconst (v := nI 3) hx hb dX6_fall_42 (by decide) ?_
          refine lv_irem hx hb dX6_fall_43 (by decide) ?_
          refine tp_i (pk_rem (by omega) (by omega) (by omega)) ?_
          refine lv_iconst (v := nI 1) hx hb dX6_fall_44 (by decide) ?_
          refine lv_iadd hx hb dX6_fall_45 ?_
          refine tp_i (nI_add _ _) ?_
          refine lv_istore_n (lv' := [(3, .int (nI ((n % 3) + 1))), (2, .int (nI ((n / 3) % 10))), (0, .ref h0), (1, .int (nI n))]) hx hb dX6_fall_46 rfl hl (by decide) rfl (fun ls hl => ?_)
          refine lv_aload_n hx hb dX6_fall_47 rfl (lv_at hl 2 rfl) ?_
          refine lv_iload_n hx hb dX6_fall_48 rfl (lv_at hl 1 rfl) ?_
          refine cr_i (wc := [(h0, .inr (6, [.int (nI thr), .int (nI mi), .int (nI me), .int (nI dp), .int (bI up), .int (nI dn), .ref ma, .ref mx, .ref mh, .ref mg, .ref mc, .ref mo, .ref mr, .ref mf, .long wp, .long wl, .int (nI ru), .int (nI sm), .ref mk, .ref ml]))]) (w1 := [(h0, .inr (6, [.int (nI thr), .int (nI mi), .int (nI me), .int (nI dp), .int (bI up), .int (nI dn), .ref ma, .ref mx, .ref mh, .ref mg, .ref mc, .ref mo, .ref mr, .ref mf, .long wp, .long wl, .int (nI ru), .int (nI sm), .ref mk, .ref ml]))]) (ws2 := [(h0, .inr (6, [.int (nI thr), .int (nI mi), .int (nI me), .int (nI dp), .int (bI up), .int (nI dn), .ref ma, .ref mx, .ref mh, .ref mg, .ref mc, .ref mo, .ref mr, .ref mf, .long wp, .long wl, .int (nI ru), .int (nI sm), .ref mk, .ref ml])), (ma, .inl (cI, 600, .inl (nA C))), (mx, .inl (cI, 600, .inl (nA (NXf me C (clr 0 NX 600) n)))), (mg, .inl (cZ, 20, .inl (bA UP))), (mc, .inl (cZ, 20, .inl (bA CL))), (mo, .inl (cJ, 20, .inr (.inl CO))), (mr, .inl (cJ, 20, .inr (.inl GR))), (mf, .inl (cJ, 20, .inr (.inl (FAf me C (clr 0 FA 20) n))))]) hP hD hS hA [0] rfl rfl rfl (va_runV (As := [.int (nI ((n / 3) % 10))]) (rest := []) ⟨hx, hb, hml, hown, hts⟩ (c_X6_phaseOf l D cI cJ cZ h0 thr mi me dp up dn ma mx mh mg mc mo mr mf mk ml wp wl ru sm ((n / 3) % 10) (by omega) (by omega) H.size) (cwV 1 hts gX6_fall_X6_phaseOf rfl rfl rfl (by decide +kernel) ⟨Nat.le_of_ble_eq_true rfl, Nat.le_of_ble_eq_true rfl⟩) (pvV hT hP hD [0] rfl rfl 0 rfl rfl) rfl rfl hl.1 rfl (lv_room (Nat.le_of_ble_eq_true rfl)) dX6_fall_49 ⟨Nat.zero_le _, Nat.zero_le _⟩) (fun H locs hP hD hS => ?_)
          have hp1 := phN_le (n / 3 % 10) me
          have hp0 := phN_0 (n / 3 % 10) me
          refine c0_ne (tgt := 59) hx hb dX6_fall_52 (by decide) (nT (by omega)) (fun c_52 => ?_) (fun c_52 => ?_)
          · have hfx : faN (n / 3 % 10) (n % 3 + 1) me = n % 3 + 1 := by unfold faN; split <;> omega
            refine lv_iload_n hx hb dX6_fall_59 rfl (lv_at hl 0 rfl) ?_
            refine lv_istore (lv' := [(4, .int (nI ((n % 3) + 1))), (3, .int (nI ((n % 3) + 1))), (2, .int (nI ((n / 3) % 10))), (0, .ref h0), (1, .int (nI n))]) hx hb dX6_fall_60 hl (by decide) rfl (fun ls hl => ?_)
            refine lv_iload_n hx hb dX6_fall_62 rfl (lv_at hl 2 rfl) ?_
            refine lv_iload hx hb dX6_fall_63 (lv_at hl 0 rfl) ?_
            refine ci_ge (tgt := 99) hx hb dX6_fall_65 (by decide) (nT (by omega)) (nT (by omega)) (fun c_65 => ?_) (fun c_65 => ?_)
            · have hN9 : NXf me C (clr 0 NX 600) (n + 1) = uN (NXf me C (clr 0 NX 600) n) (n - 3 * (n % 3 + 1)) (NXf me C (clr 0 NX 600) n (n - 3 * (n % 3 + 1)) + C n) := by show (if n / 3 % 10 < faN (n / 3 % 10) (n % 3 + 1) me then NXf me C (clr 0 NX 600) n else uN (NXf me C (clr 0 NX 600) n) (n - 3 * faN (n / 3 % 10) (n % 3 + 1) me) (NXf me C (clr 0 NX 600) n (n - 3 * faN (n / 3 % 10) (n % 3 + 1) me) + C n)) = _; rw [hfx, if_neg (by omega)]
              have hF9 : FAf me C (clr 0 FA 20) (n + 1) = FAf me C (clr 0 FA 20) n := if_neg (by rw [hfx]; omega)
              refine lv_aload_n hx hb dX6_fall_99 rfl (lv_at hl 3 rfl) ?_
              refine va_get (D := D) (ci := 6) (v := .ref mx) (C := RX6) (T := TX6) (N := 20) hx hb hts hinX6 hown hK hP 0 rfl rfl 7 (by decide) hf17 (fun _ h9 => h9) rfl dX6_fall_100 ?_
              refine lv_iload_n hx hb dX6_fall_103 rfl (lv_at hl 4 rfl) ?_
              refine lv_iconst (v := nI 3) hx hb dX6_fall_104 (by decide) ?_
              refine lv_iload hx hb dX6_fall_105 (lv_at hl 0 rfl) ?_
              refine lv_imul hx hb dX6_fall_107 ?_
              refine tp_i (pk_mul _ _) ?_
              refine lv_isub hx hb dX6_fall_108 ?_
              refine tp_i (pk_sub (by omega)) ?_
              refine lv_dup2_11 hx hb dX6_fall_109 rfl rfl ?_
              refine ald_N hx hb hK hP 2 0 rfl rfl (n - (3 * ((n % 3) + 1))) rfl (by omega) (Nat.le_of_ble_eq_true rfl) dX6_fall_110 ?_
              refine lv_aload_n hx hb dX6_fall_111 rfl (lv_at hl 3 rfl) ?_
              refine va_get (D := D) (ci := 6) (v := .ref ma) (C := RX6) (T := TX6) (N := 20) hx hb hts hinX6 hown hK hP 0 rfl rfl 6 (by decide) hf13 (fun _ h9 => h9) rfl dX6_fall_112 ?_
              refine lv_iload_n hx hb dX6_fall_115 rfl (lv_at hl 4 rfl) ?_
              refine ald_N hx hb hK hP 1 0 rfl rfl n rfl (by omega) (Nat.le_of_ble_eq_true rfl) dX6_fall_116 ?_
              refine lv_iadd hx hb dX6_fall_117 ?_
              refine tp_i (nI_add _ _) ?_
              refine ast_N (x := ((NXf me C (clr 0 NX 600) n) (n - (3 * ((n % 3) + 1)))) + (C n)) hx hb hK hP hD hS 2 0 rfl rfl (n - (3 * ((n % 3) + 1))) rfl (by omega) (Nat.le_of_ble_eq_true rfl) dX6_fall_118 (fun H locs hP hD hS => ?_)
              have hP : va_P D vwCl [(h0, .inr (6, [.int (nI thr), .int (nI mi), .int (nI me), .int (nI dp), .int (bI up), .int (nI dn), .ref ma, .ref mx, .ref mh, .ref mg, .ref mc, .ref mo, .ref mr, .ref mf, .long wp, .long wl, .int (nI ru), .int (nI sm), .ref mk, .ref ml])), (ma, .inl (cI, 600, .inl (nA C))), (mx, .inl (cI, 600, .inl (nA (uN (NXf me C (clr 0 NX 600) n) (n - (3 * ((n % 3) + 1))) (((NXf me C (clr 0 NX 600) n) (n - (3 * ((n % 3) + 1)))) + (C n)))))), (mg, .inl (cZ, 20, .inl (bA UP))), (mc, .inl (cZ, 20, .inl (bA CL))), (mo, .inl (cJ, 20, .inr (.inl CO))), (mr, .inl (cJ, 20, .inr (.inl GR))), (mf, .inl (cJ, 20, .inr (.inl (FAf me C (clr 0 FA 20) n))))] H := hP
              have hD : va_D A [(h0, .inr (6, [.int (nI thr), .int (nI mi), .int (nI me), .int (nI dp), .int (bI up), .int (nI dn), .ref ma, .ref mx, .ref mh, .ref mg, .ref mc, .ref mo, .ref mr, .ref mf, .long wp, .long wl, .int (nI ru), .int (nI sm), .ref mk, .ref ml])), (ma, .inl (cI, 600, .inl (nA C))), (mx, .inl (cI, 600, .inl (nA (uN (NXf me C (clr 0 NX 600) n) (n - (3 * ((n % 3) + 1))) (((NXf me C (clr 0 NX 600) n) (n - (3 * ((n % 3) + 1)))) + (C n)))))), (mg, .inl (cZ, 20, .inl (bA UP))), (mc, .inl (cZ, 20, .inl (bA CL))), (mo, .inl (cJ, 20, .inr (.inl CO))), (mr, .inl (cJ, 20, .inr (.inl GR))), (mf, .inl (cJ, 20, .inr (.inl (FAf me C (clr 0 FA 20) n))))] := hD
              refine lv_iinc (v := nI (n + 1)) (lv' := [(1, .int (nI (n + 1))), (4, .int (nI ((n % 3) + 1))), (3, .int (nI ((n % 3) + 1))), (2, .int (nI ((n / 3) % 10))), (0, .ref h0)]) hx hb dX6_fall_119 hl (k := 4) rfl (n_inc n) (by decide) rfl (fun ls hl => ?_)
              refine lv_goto (tgt := 27) hx hb dX6_fall_122 (by decide) ?_
              have hwe : ([(h0, .inr (6, [.int (nI thr), .int (nI mi), .int (nI me), .int (nI dp), .int (bI up), .int (nI dn), .ref ma, .ref mx, .ref mh, .ref mg, .ref mc, .ref mo, .ref mr, .ref mf, .long wp, .long wl, .int (nI ru), .int (nI sm), .ref mk, .ref ml])), (ma, .inl (cI, 600, .inl (nA C))), (mx, .inl (cI, 600, .inl (nA (NXf me C (clr 0 NX 600) (n + 1))))), (mg, .inl (cZ, 20, .inl (bA UP))), (mc, .inl (cZ, 20, .inl (bA CL))), (mo, .inl (cJ, 20, .inr (.inl CO))), (mr, .inl (cJ, 20, .inr (.inl GR))), (mf, .inl (cJ, 20, .inr (.inl (FAf me C (clr 0 FA 20) (n + 1)))))] : va_W) = [(h0, .inr (6, [.int (nI thr), .int (nI mi), .int (nI me), .int (nI dp), .int (bI up), .int (nI dn), .ref ma, .ref mx, .ref mh, .ref mg, .ref mc, .ref mo, .ref mr, .ref mf, .long wp, .long wl, .int (nI ru), .int (nI sm), .ref mk, .ref ml])), (ma, .inl (cI, 600, .inl (nA C))), (mx, .inl (cI, 600, .inl (nA (uN (NXf me C (clr 0 NX 600) n) (n - (3 * ((n % 3) + 1))) (((NXf me C (clr 0 NX 600) n) (n - (3 * ((n % 3) + 1)))) + (C n)))))), (mg, .inl (cZ, 20, .inl (bA UP))), (mc, .inl (cZ, 20, .inl (bA CL))), (mo, .inl (cJ, 20, .inr (.inl CO))), (mr, .inl (cJ, 20, .inr (.inl GR))), (mf, .inl (cJ, 20, .inr (.inl (FAf me C (clr 0 FA 20) n))))] := (by rw [hN9, hF9]; first | done | rfl)
              exact ih (n + 1) (by omega) H locs (by rw [hwe]; exact hP) (by rw [hwe]; exact hD) hS ls (lv_sub hl [4, 0] rfl)
            · have hN9 : NXf me C (clr 0 NX 600) (n + 1) = NXf me C (clr 0 NX 600) n := if_pos (by rw [hfx]; omega)
              have hF9 : FAf me C (clr 0 FA 20) (n + 1) = uN (FAf me C (clr 0 FA 20) n) (n / 30) (FAf me C (clr 0 FA 20) n (n / 30) + wtm (C n) (n % 3 + 1)) := if_pos (by rw [hfx]; omega)
              refine lv_aload_n hx hb dX6_fall_68 rfl (lv_at hl 3 rfl) ?_
              refine va_get (D := D) (ci := 6) (v := .ref mf) (C := RX6) (T := TX6) (N := 20) hx hb hts hinX6 hown hK hP 0 rfl rfl 13 (by decide) hf37 (fun _ h9 => h9) rfl dX6_fall_69 ?_
              refine lv_iload_n hx hb dX6_fall_72 rfl (lv_at hl 4 rfl) ?_
              refine lv_bipush (v := nI 30) hx hb dX6_fall_73 (by decide) ?_
              refine lv_idiv hx hb dX6_fall_75 (by decide) ?_
              refine tp_i (pk_div (by omega) (by omega) (by omega)) ?_
              refine lv_dup2_11 hx hb dX6_fall_76 rfl rfl ?_
              refine ald_L hx hb hK hP 7 1 rfl rfl (n / 30) rfl (by omega) (Nat.le_of_ble_eq_true rfl) dX6_fall_77 ?_
              refine lv_aload_n hx hb dX6_fall_78 rfl (lv_at hl 3 rfl) ?_
              refine va_get (D := D) (ci := 6) (v := .ref ma) (C := RX6) (T := TX6) (N := 20) hx hb hts hinX6 hown hK hP 0 rfl rfl 6 (by decide) hf13 (fun _ h9 => h9) rfl dX6_fall_79 ?_
              refine lv_iload_n hx hb dX6_fall_82 rfl (lv_at hl 4 rfl) ?_
              refine ald_N hx hb hK hP 1 0 rfl rfl n rfl (by omega) (Nat.le_of_ble_eq_true rfl) dX6_fall_83 ?_
              refine lv_i2l (v := (nI (C n)).toInt64) hx hb dX6_fall_84 rfl ?_
              refine lv_iload_n hx hb dX6_fall_85 rfl (lv_at hl 1 rfl) ?_
              refine lv_i2l (v := (nI ((n % 3) + 1)).toInt64) hx hb dX6_fall_86 rfl ?_
              refine lv_lmul hx hb dX6_fall_87 ?_
              refine lv_iload_n hx hb dX6_fall_88 rfl (lv_at hl 1 rfl) ?_
              refine lv_i2l (v := (nI ((n % 3) + 1)).toInt64) hx hb dX6_fall_89 rfl ?_
              refine lv_lmul hx hb dX6_fall_90 ?_
              refine lv_iload_n hx hb dX6_fall_91 rfl (lv_at hl 1 rfl) ?_
              refine lv_i2l (v := (nI ((n % 3) + 1)).toInt64) hx hb dX6_fall_92 rfl ?_
              refine lv_lmul hx hb dX6_fall_93 ?_
              refine lv_ladd hx hb dX6_fall_94 ?_
              refine ast_L (x := ((FAf me C (clr 0 FA 20) n) (n / 30)) + (((((nI (C n)).toInt64) * ((nI ((n % 3) + 1)).toInt64)) * ((nI ((n % 3) + 1)).toInt64)) * ((nI ((n % 3) + 1)).toInt64))) hx hb hK hP hD hS 7 1 rfl rfl (n / 30) rfl (by omega) (Nat.le_of_ble_eq_true rfl) dX6_fall_95 (fun H locs hP hD hS => ?_)
              have hP : va_P D vwCl [(h0, .inr (6, [.int (nI thr), .int (nI mi), .int (nI me), .int (nI dp), .int (bI up), .int (nI dn), .ref ma, .ref mx, .ref mh, .ref mg, .ref mc, .ref mo, .ref mr, .ref mf, .long wp, .long wl, .int (nI ru), .int (nI sm), .ref mk, .ref ml])), (ma, .inl (cI, 600, .inl (nA C))), (mx, .inl (cI, 600, .inl (nA (NXf me C (clr 0 NX 600) n)))), (mg, .inl (cZ, 20, .inl (bA UP))), (mc, .inl (cZ, 20, .inl (bA CL))), (mo, .inl (cJ, 20, .inr (.inl CO))), (mr, .inl (cJ, 20, .inr (.inl GR))), (mf, .inl (cJ, 20, .inr (.inl (uN (FAf me C (clr 0 FA 20) n) (n / 30) (((FAf me C (clr 0 FA 20) n) (n / 30)) + (((((nI (C n)).toInt64) * ((nI ((n % 3) + 1)).toInt64)) * ((nI ((n % 3) + 1)).toInt64)) * ((nI ((n % 3) + 1)).toInt64)))))))] H := hP
              have hD : va_D A [(h0, .inr (6, [.int (nI thr), .int (nI mi), .int (nI me), .int (nI dp), .int (bI up), .int (nI dn), .ref ma, .ref mx, .ref mh, .ref mg, .ref mc, .ref mo, .ref mr, .ref mf, .long wp, .long wl, .int (nI ru), .int (nI sm), .ref mk, .ref ml])), (ma, .inl (cI, 600, .inl (nA C))), (mx, .inl (cI, 600, .inl (nA (NXf me C (clr 0 NX 600) n)))), (mg, .inl (cZ, 20, .inl (bA UP))), (mc, .inl (cZ, 20, .inl (bA CL))), (mo, .inl (cJ, 20, .inr (.inl CO))), (mr, .inl (cJ, 20, .inr (.inl GR))), (mf, .inl (cJ, 20, .inr (.inl (uN (FAf me C (clr 0 FA 20) n) (n / 30) (((FAf me C (clr 0 FA 20) n) (n / 30)) + (((((nI (C n)).toInt64) * ((nI ((n % 3) + 1)).toInt64)) * ((nI ((n % 3) + 1)).toInt64)) * ((nI ((n % 3) + 1)).toInt64)))))))] := hD
              refine lv_goto (tgt := 119) hx hb dX6_fall_96 (by decide) ?_
              refine lv_iinc (v := nI (n + 1)) (lv' := [(1, .int (nI (n + 1))), (4, .int (nI ((n % 3) + 1))), (3, .int (nI ((n % 3) + 1))), (2, .int (nI ((n / 3) % 10))), (0, .ref h0)]) hx hb dX6_fall_119 hl (k := 4) rfl (n_inc n) (by decide) rfl (fun ls hl => ?_)
              refine lv_goto (tgt := 27) hx hb dX6_fall_122 (by decide) ?_
              have hwe : ([(h0, .inr (6, [.int (nI thr), .int (nI mi), .int (nI me), .int (nI dp), .int (bI up), .int (nI dn), .ref ma, .ref mx, .ref mh, .ref mg, .ref mc, .ref mo, .ref mr, .ref mf, .long wp, .long wl, .int (nI ru), .int (nI sm), .ref mk, .ref ml])), (ma, .inl (cI, 600, .inl (nA C))), (mx, .inl (cI, 600, .inl (nA (NXf me C (clr 0 NX 600) (n + 1))))), (mg, .inl (cZ, 20, .inl (bA UP))), (mc, .inl (cZ, 20, .inl (bA CL))), (mo, .inl (cJ, 20, .inr (.inl CO))), (mr, .inl (cJ, 20, .inr (.inl GR))), (mf, .inl (cJ, 20, .inr (.inl (FAf me C (clr 0 FA 20) (n + 1)))))] : va_W) = [(h0, .inr (6, [.int (nI thr), .int (nI mi), .int (nI me), .int (nI dp), .int (bI up), .int (nI dn), .ref ma, .ref mx, .ref mh, .ref mg, .ref mc, .ref mo, .ref mr, .ref mf, .long wp, .long wl, .int (nI ru), .int (nI sm), .ref mk, .ref ml])), (ma, .inl (cI, 600, .inl (nA C))), (mx, .inl (cI, 600, .inl (nA (NXf me C (clr 0 NX 600) n)))), (mg, .inl (cZ, 20, .inl (bA UP))), (mc, .inl (cZ, 20, .inl (bA CL))), (mo, .inl (cJ, 20, .inr (.inl CO))), (mr, .inl (cJ, 20, .inr (.inl GR))), (mf, .inl (cJ, 20, .inr (.inl (uN (FAf me C (clr 0 FA 20) n) (n / 30) (((FAf me C (clr 0 FA 20) n) (n / 30)) + (((((nI (C n)).toInt64) * ((nI ((n % 3) + 1)).toInt64)) * ((nI ((n % 3) + 1)).toInt64)) * ((nI ((n % 3) + 1)).toInt64)))))))] := (by rw [hN9, hF9]; first | done | rfl)
              exact ih (n + 1) (by omega) H locs (by rw [hwe]; exact hP) (by rw [hwe]; exact hD) hS ls (lv_sub hl [4, 0] rfl)
          · have hfx : faN (n / 3 % 10) (n % 3 + 1) me = 1 := by unfold faN; split <;> omega
            refine lv_iconst (v := nI 1) hx hb dX6_fall_55 (by decide) ?_
            refine lv_goto (tgt := 60) hx hb dX6_fall_56 (by decide) ?_
            refine lv_istore (lv' := [(4, .int (nI 1)), (3, .int (nI ((n % 3) + 1))), (2, .int (nI ((n / 3) % 10))), (0, .ref h0), (1, .int (nI n))]) hx hb dX6_fall_60 hl (by decide) rfl (fun ls hl => ?_)
            refine lv_iload_n hx hb dX6_fall_62 rfl (lv_at hl 2 rfl) ?_
            refine lv_iload hx hb dX6_fall_63 (lv_at hl 0 rfl) ?_
            refine ci_ge (tgt := 99) hx hb dX6_fall_65 (by decide) (nT (by omega)) (nT (by omega)) (fun c_65 => ?_) (fun c_65 => ?_)
            · have hN9 : NXf me C (clr 0 NX 600) (n + 1) = uN (NXf me C (clr 0 NX 600) n) (n - 3 * 1) (NXf me C (clr 0 NX 600) n (n - 3 * 1) + C n) := by show (if n / 3 % 10 < faN (n / 3 % 10) (n % 3 + 1) me then NXf me C (clr 0 NX 600) n else uN (NXf me C (clr 0 NX 600) n) (n - 3 * faN (n / 3 % 10) (n % 3 + 1) me) (NXf me C (clr 0 NX 600) n (n - 3 * faN (n / 3 % 10) (n % 3 + 1) me) + C n)) = _; rw [hfx, if_neg (by omega)]
              have hF9 : FAf me C (clr 0 FA 20) (n + 1) = FAf me C (clr 0 FA 20) n := if_neg (by rw [hfx]; omega)
              refine lv_aload_n hx hb dX6_fall_99 rfl (lv_at hl 3 rfl) ?_
              refine va_get (D := D) (ci := 6) (v := .ref mx) (C := RX6) (T := TX6) (N := 20) hx hb hts hinX6 hown hK hP 0 rfl rfl 7 (by decide) hf17 (fun _ h9 => h9) rfl dX6_fall_100 ?_
              refine lv_iload_n hx hb dX6_fall_103 rfl (lv_at hl 4 rfl) ?_
              refine lv_iconst (v := nI 3) hx hb dX6_fall_104 (by decide) ?_
              refine lv_iload hx hb dX6_fall_105 (lv_at hl 0 rfl) ?_
              refine lv_imul hx hb dX6_fall_107 ?_
              refine tp_i (pk_mul _ _) ?_
              refine lv_isub hx hb dX6_fall_108 ?_
              refine tp_i (pk_sub (by omega)) ?_
              refine lv_dup2_11 hx hb dX6_fall_109 rfl rfl ?_
              refine ald_N hx hb hK hP 2 0 rfl rfl (n - (3 * 1)) rfl (by omega) (Nat.le_of_ble_eq_true rfl) dX6_fall_110 ?_
              refine lv_aload_n hx hb dX6_fall_111 rfl (lv_at hl 3 rfl) ?_
              refine va_get (D := D) (ci := 6) (v := .ref ma) (C := RX6) (T := TX6) (N := 20) hx hb hts hinX6 hown hK hP 0 rfl rfl 6 (by decide) hf13 (fun _ h9 => h9) rfl dX6_fall_112 ?_
              refine lv_iload_n hx hb dX6_fall_115 rfl (lv_at hl 4 rfl) ?_
              refine ald_N hx hb hK hP 1 0 rfl rfl n rfl (by omega) (Nat.le_of_ble_eq_true rfl) dX6_fall_116 ?_
              refine lv_iadd hx hb dX6_fall_117 ?_
              refine tp_i (nI_add _ _) ?_
              refine ast_N (x := ((NXf me C (clr 0 NX 600) n) (n - (3 * 1))) + (C n)) hx hb hK hP hD hS 2 0 rfl rfl (n - (3 * 1)) rfl (by omega) (Nat.le_of_ble_eq_true rfl) dX6_fall_118 (fun H locs hP hD hS => ?_)
              have hP : va_P D vwCl [(h0, .inr (6, [.int (nI thr), .int (nI mi), .int (nI me), .int (nI dp), .int (bI up), .int (nI dn), .ref ma, .ref mx, .ref mh, .ref mg, .ref mc, .ref mo, .ref mr, .ref mf, .long wp, .long wl, .int (nI ru), .int (nI sm), .ref mk, .ref ml])), (ma, .inl (cI, 600, .inl (nA C))), (mx, .inl (cI, 600, .inl (nA (uN (NXf me C (clr 0 NX 600) n) (n - (3 * 1)) (((NXf me C (clr 0 NX 600) n) (n - (3 * 1))) + (C n)))))), (mg, .inl (cZ, 20, .inl (bA UP))), (mc, .inl (cZ, 20, .inl (bA CL))), (mo, .inl (cJ, 20, .inr (.inl CO))), (mr, .inl (cJ, 20, .inr (.inl GR))), (mf, .inl (cJ, 20, .inr (.inl (FAf me C (clr 0 FA 20) n))))] H := hP
              have hD : va_D A [(h0, .inr (6, [.int (nI thr), .int (nI mi), .int (nI me), .int (nI dp), .int (bI up), .int (nI dn), .ref ma, .ref mx, .ref mh, .ref mg, .ref mc, .ref mo, .ref mr, .ref mf, .long wp, .long wl, .int (nI ru), .int (nI sm), .ref mk, .ref ml])), (ma, .inl (cI, 600, .inl (nA C))), (mx, .inl (cI, 600, .inl (nA (uN (NXf me C (clr 0 NX 600) n) (n - (3 * 1)) (((NXf me C (clr 0 NX 600) n) (n - (3 * 1))) + (C n)))))), (mg, .inl (cZ, 20, .inl (bA UP))), (mc, .inl (cZ, 20, .inl (bA CL))), (mo, .inl (cJ, 20, .inr (.inl CO))), (mr, .inl (cJ, 20, .inr (.inl GR))), (mf, .inl (cJ, 20, .inr (.inl (FAf me C (clr 0 FA 20) n))))] := hD
              refine lv_iinc (v := nI (n + 1)) (lv' := [(1, .int (nI (n + 1))), (4, .int (nI 1)), (3, .int (nI ((n % 3) + 1))), (2, .int (nI ((n / 3) % 10))), (0, .ref h0)]) hx hb dX6_fall_119 hl (k := 4) rfl (n_inc n) (by decide) rfl (fun ls hl => ?_)
              refine lv_goto (tgt := 27) hx hb dX6_fall_122 (by decide) ?_
              have hwe : ([(h0, .inr (6, [.int (nI thr), .int (nI mi), .int (nI me), .int (nI dp), .int (bI up), .int (nI dn), .ref ma, .ref mx, .ref mh, .ref mg, .ref mc, .ref mo, .ref mr, .ref mf, .long wp, .long wl, .int (nI ru), .int (nI sm), .ref mk, .ref ml])), (ma, .inl (cI, 600, .inl (nA C))), (mx, .inl (cI, 600, .inl (nA (NXf me C (clr 0 NX 600) (n + 1))))), (mg, .inl (cZ, 20, .inl (bA UP))), (mc, .inl (cZ, 20, .inl (bA CL))), (mo, .inl (cJ, 20, .inr (.inl CO))), (mr, .inl (cJ, 20, .inr (.inl GR))), (mf, .inl (cJ, 20, .inr (.inl (FAf me C (clr 0 FA 20) (n + 1)))))] : va_W) = [(h0, .inr (6, [.int (nI thr), .int (nI mi), .int (nI me), .int (nI dp), .int (bI up), .int (nI dn), .ref ma, .ref mx, .ref mh, .ref mg, .ref mc, .ref mo, .ref mr, .ref mf, .long wp, .long wl, .int (nI ru), .int (nI sm), .ref mk, .ref ml])), (ma, .inl (cI, 600, .inl (nA C))), (mx, .inl (cI, 600, .inl (nA (uN (NXf me C (clr 0 NX 600) n) (n - (3 * 1)) (((NXf me C (clr 0 NX 600) n) (n - (3 * 1))) + (C n)))))), (mg, .inl (cZ, 20, .inl (bA UP))), (mc, .inl (cZ, 20, .inl (bA CL))), (mo, .inl (cJ, 20, .inr (.inl CO))), (mr, .inl (cJ, 20, .inr (.inl GR))), (mf, .inl (cJ, 20, .inr (.inl (FAf me C (clr 0 FA 20) n))))] := (by rw [hN9, hF9]; first | done | rfl)
              exact ih (n + 1) (by omega) H locs (by rw [hwe]; exact hP) (by rw [hwe]; exact hD) hS ls (lv_sub hl [4, 0] rfl)
            · have hN9 : NXf me C (clr 0 NX 600) (n + 1) = NXf me C (clr 0 NX 600) n := if_pos (by rw [hfx]; omega)
              have hF9 : FAf me C (clr 0 FA 20) (n + 1) = uN (FAf me C (clr 0 FA 20) n) (n / 30) (FAf me C (clr 0 FA 20) n (n / 30) + wtm (C n) (n % 3 + 1)) := if_pos (by rw [hfx]; omega)
              refine lv_aload_n hx hb dX6_fall_68 rfl (lv_at hl 3 rfl) ?_
              refine va_get (D := D) (ci := 6) (v := .ref mf) (C := RX6) (T := TX6) (N := 20) hx hb hts hinX6 hown hK hP 0 rfl rfl 13 (by decide) hf37 (fun _ h9 => h9) rfl dX6_fall_69 ?_
              refine lv_iload_n hx hb dX6_fall_72 rfl (lv_at hl 4 rfl) ?_
              refine lv_bipush (v := nI 30) hx hb dX6_fall_73 (by decide) ?_
              refine lv_idiv hx hb dX6_fall_75 (by decide) ?_
              refine tp_i (pk_div (by omega) (by omega) (by omega)) ?_
              refine lv_dup2_11 hx hb dX6_fall_76 rfl rfl ?_
              refine ald_L hx hb hK hP 7 1 rfl rfl (n / 30) rfl (by omega) (Nat.le_of_ble_eq_true rfl) dX6_fall_77 ?_
              refine lv_aload_n hx hb dX6_fall_78 rfl (lv_at hl 3 rfl) ?_
              refine va_get (D := D) (ci := 6) (v := .ref ma) (C := RX6) (T := TX6) (N := 20) hx hb hts hinX6 hown hK hP 0 rfl rfl 6 (by decide) hf13 (fun _ h9 => h9) rfl dX6_fall_79 ?_
              refine lv_iload_n hx hb dX6_fall_82 rfl (lv_at hl 4 rfl) ?_
              refine ald_N hx hb hK hP 1 0 rfl rfl n rfl (by omega) (Nat.le_of_ble_eq_true rfl) dX6_fall_83 ?_
              refine lv_i2l (v := (nI (C n)).toInt64) hx hb dX6_fall_84 rfl ?_
              refine lv_iload_n hx hb dX6_fall_85 rfl (lv_at hl 1 rfl) ?_
              refine lv_i2l (v := (nI ((n % 3) + 1)).toInt64) hx hb dX6_fall_86 rfl ?_
              refine lv_lmul hx hb dX6_fall_87 ?_
              refine lv_iload_n hx hb dX6_fall_88 rfl (lv_at hl 1 rfl) ?_
              refine lv_i2l (v := (nI ((n % 3) + 1)).toInt64) hx hb dX6_fall_89 rfl ?_
              refine lv_lmul hx hb dX6_fall_90 ?_
              refine lv_iload_n hx hb dX6_fall_91 rfl (lv_at hl 1 rfl) ?_
              refine lv_i2l (v := (nI ((n % 3) + 1)).toInt64) hx hb dX6_fall_92 rfl ?_
              refine lv_lmul hx hb dX6_fall_93 ?_
              refine lv_ladd hx hb dX6_fall_94 ?_
              refine ast_L (x := ((FAf me C (clr 0 FA 20) n) (n / 30)) + (((((nI (C n)).toInt64) * ((nI ((n % 3) + 1)).toInt64)) * ((nI ((n % 3) + 1)).toInt64)) * ((nI ((n % 3) + 1)).toInt64))) hx hb hK hP hD hS 7 1 rfl rfl (n / 30) rfl (by omega) (Nat.le_of_ble_eq_true rfl) dX6_fall_95 (fun H locs hP hD hS => ?_)
              have hP : va_P D vwCl [(h0, .inr (6, [.int (nI thr), .int (nI mi), .int (nI me), .int (nI dp), .int (bI up), .int (nI dn), .ref ma, .ref mx, .ref mh, .ref mg, .ref mc, .ref mo, .ref mr, .ref mf, .long wp, .long wl, .int (nI ru), .int (nI sm), .ref mk, .ref ml])), (ma, .inl (cI, 600, .inl (nA C))), (mx, .inl (cI, 600, .inl (nA (NXf me C (clr 0 NX 600) n)))), (mg, .inl (cZ, 20, .inl (bA UP))), (mc, .inl (cZ, 20, .inl (bA CL))), (mo, .inl (cJ, 20, .inr (.inl CO))), (mr, .inl (cJ, 20, .inr (.inl GR))), (mf, .inl (cJ, 20, .inr (.inl (uN (FAf me C (clr 0 FA 20) n) (n / 30) (((FAf me C (clr 0 FA 20) n) (n / 30)) + (((((nI (C n)).toInt64) * ((nI ((n % 3) + 1)).toInt64)) * ((nI ((n % 3) + 1)).toInt64)) * ((nI ((n % 3) + 1)).toInt64)))))))] H := hP
              have hD : va_D A [(h0, .inr (6, [.int (nI thr), .int (nI mi), .int (nI me), .int (nI dp), .int (bI up), .int (nI dn), .ref ma, .ref mx, .ref mh, .ref mg, .ref mc, .ref mo, .ref mr, .ref mf, .long wp, .long wl, .int (nI ru), .int (nI sm), .ref mk, .ref ml])), (ma, .inl (cI, 600, .inl (nA C))), (mx, .inl (cI, 600, .inl (nA (NXf me C (clr 0 NX 600) n)))), (mg, .inl (cZ, 20, .inl (bA UP))), (mc, .inl (cZ, 20, .inl (bA CL))), (mo, .inl (cJ, 20, .inr (.inl CO))), (mr, .inl (cJ, 20, .inr (.inl GR))), (mf, .inl (cJ, 20, .inr (.inl (uN (FAf me C (clr 0 FA 20) n) (n / 30) (((FAf me C (clr 0 FA 20) n) (n / 30)) + (((((nI (C n)).toInt64) * ((nI ((n % 3) + 1)).toInt64)) * ((nI ((n % 3) + 1)).toInt64)) * ((nI ((n % 3) + 1)).toInt64)))))))] := hD
              refine lv_goto (tgt := 119) hx hb dX6_fall_96 (by decide) ?_
              refine lv_iinc (v := nI (n + 1)) (lv' := [(1, .int (nI (n + 1))), (4, .int (nI 1)), (3, .int (nI ((n % 3) + 1))), (2, .int (nI ((n / 3) % 10))), (0, .ref h0)]) hx hb dX6_fall_119 hl (k := 4) rfl (n_inc n) (by decide) rfl (fun ls hl => ?_)
              refine lv_goto (tgt := 27) hx hb dX6_fall_122 (by decide) ?_
              have hwe : ([(h0, .inr (6, [.int (nI thr), .int (nI mi), .int (nI me), .int (nI dp), .int (bI up), .int (nI dn), .ref ma, .ref mx, .ref mh, .ref mg, .ref mc, .ref mo, .ref mr, .ref mf, .long wp, .long wl, .int (nI ru), .int (nI sm), .ref mk, .ref ml])), (ma, .inl (cI, 600, .inl (nA C))), (mx, .inl (cI, 600, .inl (nA (NXf me C (clr 0 NX 600) (n + 1))))), (mg, .inl (cZ, 20, .inl (bA UP))), (mc, .inl (cZ, 20, .inl (bA CL))), (mo, .inl (cJ, 20, .inr (.inl CO))), (mr, .inl (cJ, 20, .inr (.inl GR))), (mf, .inl (cJ, 20, .inr (.inl (FAf me C (clr 0 FA 20) (n + 1)))))] : va_W) = [(h0, .inr (6, [.int (nI thr), .int (nI mi), .int (nI me), .int (nI dp), .int (bI up), .int (nI dn), .ref ma, .ref mx, .ref mh, .ref mg, .ref mc, .ref mo, .ref mr, .ref mf, .long wp, .long wl, .int (nI ru), .int (nI sm), .ref mk, .ref ml])), (ma, .inl (cI, 600, .inl (nA C))), (mx, .inl (cI, 600, .inl (nA (NXf me C (clr 0 NX 600) n)))), (mg, .inl (cZ, 20, .inl (bA UP))), (mc, .inl (cZ, 20, .inl (bA CL))), (mo, .inl (cJ, 20, .inr (.inl CO))), (mr, .inl (cJ, 20, .inr (.inl GR))), (mf, .inl (cJ, 20, .inr (.inl (uN (FAf me C (clr 0 FA 20) n) (n / 30) (((FAf me C (clr 0 FA 20) n) (n / 30)) + (((((nI (C n)).toInt64) * ((nI ((n % 3) + 1)).toInt64)) * ((nI ((n % 3) + 1)).toInt64)) * ((nI ((n % 3) + 1)).toInt64)))))))] := (by rw [hN9, hF9]; first | done | rfl)
              exact ih (n + 1) (by omega) H locs (by rw [hwe]; exact hP) (by rw [hwe]; exact hD) hS ls (lv_sub hl [4, 0] rfl)
      have hwe : ([(h0, .inr (6, [.int (nI thr), .int (nI mi), .int (nI me), .int (nI dp), .int (bI up), .int (nI dn), .ref ma, .ref mx, .ref mh, .ref mg, .ref mc, .ref mo, .ref mr, .ref mf, .long wp, .long wl, .int (nI ru), .int (nI sm), .ref mk, .ref ml])), (ma, .inl (cI, 600, .inl (nA C))), (mx, .inl (cI, 600, .inl (nA (NXf me C (clr 0 NX 600) 0)))), (mg, .inl (cZ, 20, .inl (bA UP))), (mc, .inl (cZ, 20, .inl (bA CL))), (mo, .inl (cJ, 20, .inr (.inl CO))), (mr, .inl (cJ, 20, .inr (.inl GR))), (mf, .inl (cJ, 20, .inr (.inl (FAf me C (clr 0 FA 20) 0))))] : va_W) = [(h0, .inr (6, [.int (nI thr), .int (nI mi), .int (nI me), .int (nI dp), .int (bI up), .int (nI dn), .ref ma, .ref mx, .ref mh, .ref mg, .ref mc, .ref mo, .ref mr, .ref mf, .long wp, .long wl, .int (nI ru), .int (nI sm), .ref mk, .ref ml])), (ma, .inl (cI, 600, .inl (nA C))), (mx, .inl (cI, 600, .inl (nA (clr 0 NX 600)))), (mg, .inl (cZ, 20, .inl (bA UP))), (mc, .inl (cZ, 20, .inl (bA CL))), (mo, .inl (cJ, 20, .inr (.inl CO))), (mr, .inl (cJ, 20, .inr (.inl GR))), (mf, .inl (cJ, 20, .inr (.inl (clr 0 FA 20))))] := rfl
      exact lp27 600 0 (by omega) H locs (by rw [hwe]; exact hP) (by rw [hwe]; exact hD) hS ls (lv_sub hl [1, 0] rfl)
    | succ n ih =>
      intro k hcntk H locs hP hD hS ls hl
      have hltk : k < 20 := by omega
      refine lv_iload_n hx hb dX6_fall_6 rfl (lv_at hl 1 rfl) ?_
      refine lv_bipush (v := nI 20) hx hb dX6_fall_7 (by decide) ?_
      refine ci_ge (tgt := 25) hx hb dX6_fall_9 (by decide) (nT (by omega)) (nT (by omega)) (fun c_9 => by omega) (fun c_9 => ?_)
      refine lv_aload_n hx hb dX6_fall_12 rfl (lv_at hl 0 rfl) ?_
      refine va_get (D := D) (ci := 6) (v := .ref mf) (C := RX6) (T := TX6) (N := 20) hx hb hts hinX6 hown hK hP 0 rfl rfl 13 (by decide) hf37 (fun _ h9 => h9) rfl dX6_fall_13 ?_
      refine lv_iload_n hx hb dX6_fall_16 rfl (lv_at hl 1 rfl) ?_
      refine lv_lconst (v := 0) hx hb dX6_fall_17 (by decide) ?_
      refine ast_L (x := 0) hx hb hK hP hD hS 7 1 rfl rfl k rfl (by omega) (Nat.le_of_ble_eq_true rfl) dX6_fall_18 (fun H locs hP hD hS => ?_)
      have hP : va_P D vwCl [(h0, .inr (6, [.int (nI thr), .int (nI mi), .int (nI me), .int (nI dp), .int (bI up), .int (nI dn), .ref ma, .ref mx, .ref mh, .ref mg, .ref mc, .ref mo, .ref mr, .ref mf, .long wp, .long wl, .int (nI ru), .int (nI sm), .ref mk, .ref ml])), (ma, .inl (cI, 600, .inl (nA C))), (mx, .inl (cI, 600, .inl (nA (clr 0 NX 600)))), (mg, .inl (cZ, 20, .inl (bA UP))), (mc, .inl (cZ, 20, .inl (bA CL))), (mo, .inl (cJ, 20, .inr (.inl CO))), (mr, .inl (cJ, 20, .inr (.inl GR))), (mf, .inl (cJ, 20, .inr (.inl (uN (clr 0 FA k) k 0))))] H := hP
      have hD : va_D A [(h0, .inr (6, [.int (nI thr), .int (nI mi), .int (nI me), .int (nI dp), .int (bI up), .int (nI dn), .ref ma, .ref mx, .ref mh, .ref mg, .ref mc, .ref mo, .ref mr, .ref mf, .long wp, .long wl, .int (nI ru), .int (nI sm), .ref mk, .ref ml])), (ma, .inl (cI, 600, .inl (nA C))), (mx, .inl (cI, 600, .inl (nA (clr 0 NX 600)))), (mg, .inl (cZ, 20, .inl (bA UP))), (mc, .inl (cZ, 20, .inl (bA CL))), (mo, .inl (cJ, 20, .inr (.inl CO))), (mr, .inl (cJ, 20, .inr (.inl GR))), (mf, .inl (cJ, 20, .inr (.inl (uN (clr 0 FA k) k 0))))] := hD
      refine lv_iinc (v := nI (k + 1)) (lv' := [(1, .int (nI (k + 1))), (0, .ref h0)]) hx hb dX6_fall_19 hl (k := 1) rfl (n_inc k) (by decide) rfl (fun ls hl => ?_)
      refine lv_goto (tgt := 6) hx hb dX6_fall_22 (by decide) ?_
      have hwe : ([(h0, .inr (6, [.int (nI thr), .int (nI mi), .int (nI me), .int (nI dp), .int (bI up), .int (nI dn), .ref ma, .ref mx, .ref mh, .ref mg, .ref mc, .ref mo, .ref mr, .ref mf, .long wp, .long wl, .int (nI ru), .int (nI sm), .ref mk, .ref ml])), (ma, .inl (cI, 600, .inl (nA C))), (mx, .inl (cI, 600, .inl (nA (clr 0 NX 600)))), (mg, .inl (cZ, 20, .inl (bA UP))), (mc, .inl (cZ, 20, .inl (bA CL))), (mo, .inl (cJ, 20, .inr (.inl CO))), (mr, .inl (cJ, 20, .inr (.inl GR))), (mf, .inl (cJ, 20, .inr (.inl (clr 0 FA (k + 1)))))] : va_W) = [(h0, .inr (6, [.int (nI thr), .int (nI mi), .int (nI me), .int (nI dp), .int (bI up), .int (nI dn), .ref ma, .ref mx, .ref mh, .ref mg, .ref mc, .ref mo, .ref mr, .ref mf, .long wp, .long wl, .int (nI ru), .int (nI sm), .ref mk, .ref ml])), (ma, .inl (cI, 600, .inl (nA C))), (mx, .inl (cI, 600, .inl (nA (clr 0 NX 600)))), (mg, .inl (cZ, 20, .inl (bA UP))), (mc, .inl (cZ, 20, .inl (bA CL))), (mo, .inl (cJ, 20, .inr (.inl CO))), (mr, .inl (cJ, 20, .inr (.inl GR))), (mf, .inl (cJ, 20, .inr (.inl (uN (clr 0 FA k) k 0))))] := rfl
      exact ih (k + 1) (by omega) H locs (by rw [hwe]; exact hP) (by rw [hwe]; exact hD) hS ls (lv_sub hl [1, 0] rfl)
  have hwe : ([(h0, .inr (6, [.int (nI thr), .int (nI mi), .int (nI me), .int (nI dp), .int (bI up), .int (nI dn), .ref ma, .ref mx, .ref mh, .ref mg, .ref mc, .ref mo, .ref mr, .ref mf, .long wp, .long wl, .int (nI ru), .int (nI sm), .ref mk, .ref ml])), (ma, .inl (cI, 600, .inl (nA C))), (mx, .inl (cI, 600, .inl (nA (clr 0 NX 600)))), (mg, .inl (cZ, 20, .inl (bA UP))), (mc, .inl (cZ, 20, .inl (bA CL))), (mo, .inl (cJ, 20, .inr (.inl CO))), (mr, .inl (cJ, 20, .inr (.inl GR))), (mf, .inl (cJ, 20, .inr (.inl (clr 0 FA 0))))] : va_W) = [(h0, .inr (6, [.int (nI thr), .int (nI mi), .int (nI me), .int (nI dp), .int (bI up), .int (nI dn), .ref ma, .ref mx, .ref mh, .ref mg, .ref mc, .ref mo, .ref mr, .ref mf, .long wp, .long wl, .int (nI ru), .int (nI sm), .ref mk, .ref ml])), (ma, .inl (cI, 600, .inl (nA C))), (mx, .inl (cI, 600, .inl (nA (clr 0 NX 600)))), (mg, .inl (cZ, 20, .inl (bA UP))), (mc, .inl (cZ, 20, .inl (bA CL))), (mo, .inl (cJ, 20, .inr (.inl CO))), (mr, .inl (cJ, 20, .inr (.inl GR))), (mf, .inl (cJ, 20, .inr (.inl FA)))] := rfl
  exact lp6 20 0 (by omega) H locs (by rw [hwe]; exact hP) (by rw [hwe]; exact hD) hS ls (lv_sub hl [1, 0] rfl)
set_option maxHeartbeats 4000000 in
set_option maxRecDepth 100000 in
theorem c_X6_blow (l : Launch) (D : va_G) (cI cJ cZ : ClassId) (h0 : Nat) (thr : Nat) (mi : Nat) (me : Nat) (dp : Nat) (up : Bool) (dn : Nat) (ma : Nat) (mx : Nat) (mh : Nat) (mg : Nat) (mc : Nat) (mo : Nat) (mr : Nat) (mf : Nat) (mk : Nat) (ml : Nat) (wp : Int64) (wl : Int64) (ru : Nat) (sm : Nat) (C : Nat → Nat) (NX : Nat → Nat) (sz : Nat) : Met l yX6_blow wsX6_blow ({ frames := 1, cells := 0, slots := 0, locals := 22 } : Room) (va_Pc [.ref h0] (mPre D cI cJ cZ [(h0, .inr (6, [.int (nI thr), .int (nI mi), .int (nI me), .int (nI dp), .int (bI up), .int (nI dn), .ref ma, .ref mx, .ref mh, .ref mg, .ref mc, .ref mo, .ref mr, .ref mf, .long wp, .long wl, .int (nI ru), .int (nI sm), .ref mk, .ref ml])), (ma, .inl (cI, 600, .inl (nA C))), (mx, .inl (cI, 600, .inl (nA NX)))] sz)) (Qv9 D (va_A [(h0, .inr (6, [.int (nI thr), .int (nI mi), .int (nI me), .int (nI dp), .int (bI up), .int (nI dn), .ref ma, .ref mx, .ref mh, .ref mg, .ref mc, .ref mo, .ref mr, .ref mf, .long wp, .long wl, .int (nI ru), .int (nI sm), .ref mk, .ref ml])), (ma, .inl (cI, 600, .inl (nA C))), (mx, .inl (cI, 600, .inl (nA NX)))] sz) [(h0, .inr (6, [.int (nI thr), .int (nI mi), .int (nI me), .int (nI dp), .int (bI up), .int (nI dn), .ref mx, .ref ma, .ref mh, .ref mg, .ref mc, .ref mo, .ref mr, .ref mf, .long wp, .long (LFb up C wl 600), .int (nI ru), .int (nI sm), .ref mk, .ref ml])), (ma, .inl (cI, 600, .inl (nA C))), (mx, .inl (cI, 600, .inl (nA (NXb up C (clr 0 NX 600) 600))))]) 0 0 (va_A [(h0, .inr (6, [.int (nI thr), .int (nI mi), .int (nI me), .int (nI dp), .int (bI up), .int (nI dn), .ref ma, .ref mx, .ref mh, .ref mg, .ref mc, .ref mo, .ref mr, .ref mf, .long wp, .long wl, .int (nI ru), .int (nI sm), .ref mk, .ref ml])), (ma, .inl (cI, 600, .inl (nA C))), (mx, .inl (cI, 600, .inl (nA NX)))] sz) := by
  refine Met.ofW (cc := cX6_blow) (maxL := 4) (ret := none) (by decide) rfl ?_
  intro p e s m args below meth c s₁ B hml hv
  obtain ⟨hargs, hsz, hP, hT, hD0⟩ := hv
  have hx := B.exec
  have hb := B.bytes
  have hr := B.returns
  have hts := atoms_spec (ws := wsX6_blow) B.pre
  have hown : s.vm.findClass RX6 = some m.cls := findClass_of_methodNamed B.named
  have hlocks := B.notSynchronized
  subst hsz
  have hK := hT.1
  have hD := hD0.self (sz := s.heap.size)
  generalize hAe : va_A [(h0, .inr (6, [.int (nI thr), .int (nI mi), .int (nI me), .int (nI dp), .int (bI up), .int (nI dn), .ref ma, .ref mx, .ref mh, .ref mg, .ref mc, .ref mo, .ref mr, .ref mf, .long wp, .long wl, .int (nI ru), .int (nI sm), .ref mk, .ref ml])), (ma, .inl (cI, 600, .inl (nA C))), (mx, .inl (cI, 600, .inl (nA NX)))] s.heap.size = A at hD ⊢
  have hA : ∀ q : Nat, s.heap.size ≤ q → A q := fun q h => by rw [← hAe]; exact Or.inr h
  have hS : va_S A s.heap s.heap [] := va_S.rf
  obtain ⟨H, hHe⟩ : ∃ H : Heap, H = s.heap := ⟨_, rfl⟩
  have hS : va_S A s.heap H [] := by rw [hHe]; exact va_S.rf
  rw [← hHe] at hP
  suffices K0 : W p l e (headSpec wsX6_blow ({ frames := 1, cells := 0, slots := 0, locals := 22 } : Room)).room s m args below meth c H [] 0 0 (MQ below (Qv9 D A [(h0, .inr (6, [.int (nI thr), .int (nI mi), .int (nI me), .int (nI dp), .int (bI up), .int (nI dn), .ref mx, .ref ma, .ref mh, .ref mg, .ref mc, .ref mo, .ref mr, .ref mf, .long wp, .long (LFb up C wl 600), .int (nI ru), .int (nI sm), .ref mk, .ref ml])), (ma, .inl (cI, 600, .inl (nA C))), (mx, .inl (cI, 600, .inl (nA (NXb up C (clr 0 NX 600) 600))))]) args s 0 0 A) (entryFrame m args 4) by rw [hHe] at K0; exact K0
  refine W.eq (g2 := entryFrame m ([.ref h0] : List Value).toArray 4) (by rw [hargs]) ?_
  have hl := lv_entry ([.ref h0]) (n := 4) (Nat.le_of_ble_eq_true rfl)
  rw [lg_entry_eq]
  generalize (lg_sl ([.ref h0]) ++ List.replicate (4 - (lg_sl ([.ref h0])).length) Slot.unset).toArray = ls at hl ⊢
  have hl : lv_has ls 4 [(0, .ref h0)] := hl
  generalize ([] : List Loc) = locs at hS ⊢
  have hinX6 : ∀ w ∈ wsX60, w ∈ wsX6_blow := by decide +kernel
  have hf76 := hts (.fieldLink RX6 76 "BrightbandModel" "isUp" "Z") (by decide +kernel)
  have hf17 := hts (.fieldLink RX6 17 "BrightbandModel" "next" "[I") (by decide +kernel)
  have hf13 := hts (.fieldLink RX6 13 "BrightbandModel" "air" "[I") (by decide +kernel)
  have hf92 := hts (.fieldLink RX6 92 "BrightbandModel" "left" "J") (by decide +kernel)
  refine lv_aload_n hx hb dX6_blow_0 rfl (lv_at hl 0 rfl) ?_
  refine cr_v (wc := [(h0, .inr (6, [.int (nI thr), .int (nI mi), .int (nI me), .int (nI dp), .int (bI up), .int (nI dn), .ref ma, .ref mx, .ref mh, .ref mg, .ref mc, .ref mo, .ref mr, .ref mf, .long wp, .long wl, .int (nI ru), .int (nI sm), .ref mk, .ref ml])), (mx, .inl (cI, 600, .inl (nA NX)))]) (w1 := [(h0, .inr (6, [.int (nI thr), .int (nI mi), .int (nI me), .int (nI dp), .int (bI up), .int (nI dn), .ref ma, .ref mx, .ref mh, .ref mg, .ref mc, .ref mo, .ref mr, .ref mf, .long wp, .long wl, .int (nI ru), .int (nI sm), .ref mk, .ref ml])), (mx, .inl (cI, 600, .inl (nA (clr 0 NX 600))))]) (ws2 := [(h0, .inr (6, [.int (nI thr), .int (nI mi), .int (nI me), .int (nI dp), .int (bI up), .int (nI dn), .ref ma, .ref mx, .ref mh, .ref mg, .ref mc, .ref mo, .ref mr, .ref mf, .long wp, .long wl, .int (nI ru), .int (nI sm), .ref mk, .ref ml])), (ma, .inl (cI, 600, .inl (nA C))), (mx, .inl (cI, 600, .inl (nA (clr 0 NX 600))))]) hP hD hS hA [0, 2] rfl rfl rfl (va_runV (As := []) (rest := []) ⟨hx, hb, hml, hown, hts⟩ (c_X6_clear l D cI cJ cZ h0 thr mi me dp up dn ma mx mh mg mc mo mr mf mk ml wp wl ru sm NX H.size) (cwV 0 hts gX6_blow_X6_clear rfl rfl rfl (by decide +kernel) ⟨Nat.le_of_ble_eq_true rfl, Nat.le_of_ble_eq_true rfl⟩) (pvV hT hP hD [0, 2] rfl rfl 0 rfl rfl) rfl rfl hl.1 rfl (lv_room (Nat.le_of_ble_eq_true rfl)) dX6_blow_1 ⟨Nat.zero_le _, Nat.zero_le _⟩) (fun H locs hP hD hS => ?_)
  refine lv_iconst (v := nI 0) hx hb dX6_blow_4 (by decide) ?_
  refine lv_istore_n (lv' := [(1, .int (nI 0)), (0, .ref h0)]) hx hb dX6_blow_5 rfl hl (by decide) rfl (fun ls hl => ?_)
  have lp6 : ∀ (n9 n : Nat), n + n9 = 600 → ∀ (H : Heap) (locs : List Loc), va_P D vwCl [(h0, .inr (6, [.int (nI thr), .int (nI mi), .int (nI me), .int (nI dp), .int (bI up), .int (nI dn), .ref ma, .ref mx, .ref mh, .ref mg, .ref mc, .ref mo, .ref mr, .ref mf, .long wp, .long (LFb up C wl n), .int (nI ru), .int (nI sm), .ref mk, .ref ml])), (ma, .inl (cI, 600, .inl (nA C))), (mx, .inl (cI, 600, .inl (nA (NXb up C (clr 0 NX 600) n))))] H → va_D A [(h0, .inr (6, [.int (nI thr), .int (nI mi), .int (nI me), .int (nI dp), .int (bI up), .int (nI dn), .ref ma, .ref mx, .ref mh, .ref mg, .ref mc, .ref mo, .ref mr, .ref mf, .long wp, .long (LFb up C wl n), .int (nI ru), .int (nI sm), .ref mk, .ref ml])), (ma, .inl (cI, 600, .inl (nA C))), (mx, .inl (cI, 600, .inl (nA (NXb up C (clr 0 NX 600) n))))] → va_S A s.heap H locs → ∀ (ls : Array Slot), lv_has ls 4 [(0, .ref h0), (1, .int (nI n))] → W p l e (headSpec wsX6_blow ({ frames := 1, cells := 0, slots := 0, locals := 22 } : Room)).room s m args below meth c H locs 0 0 (MQ below (Qv9 D A [(h0, .inr (6, [.int (nI thr), .int (nI mi), .int (nI me), .int (nI dp), .int (bI up), .int (nI dn), .ref mx, .ref ma, .ref mh, .ref mg, .ref mc, .ref mo, .ref mr, .ref mf, .long wp, .long (LFb up C wl 600), .int (nI ru), .int (nI sm), .ref mk, .ref ml])), (ma, .inl (cI, 600, .inl (nA C))), (mx, .inl (cI, 600, .inl (nA (NXb up C (clr 0 NX 600) 600))))]) args s 0 0 A) (F0 m 6 ls []) := by
    intro n9
    induction n9 with
    | zero =>
      intro n hcntn H locs hP hD hS ls hl
      obtain rfl : 600 = n := by omega
      refine lv_iload_n hx hb dX6_blow_6 rfl (lv_at hl 1 rfl) ?_
      refine lv_sipush (v := nI 600) hx hb dX6_blow_7 (by decide) ?_
      refine ci_ge (tgt := 98) hx hb dX6_blow_10 (by decide) (nT (by omega)) (nT (by omega)) (fun c_10 => ?_) (fun c_10 => by omega)
      refine lv_aload_n hx hb dX6_blow_98 rfl (lv_at hl 0 rfl) ?_
      refine cr_v (wc := [(h0, .inr (6, [.int (nI thr), .int (nI mi), .int (nI me), .int (nI dp), .int (bI up), .int (nI dn), .ref ma, .ref mx, .ref mh, .ref mg, .ref mc, .ref mo, .ref mr, .ref mf, .long wp, .long (LFb up C wl 600), .int (nI ru), .int (nI sm), .ref mk, .ref ml]))]) (w1 := [(h0, .inr (6, [.int (nI thr), .int (nI mi), .int (nI me), .int (nI dp), .int (bI up), .int (nI dn), .ref mx, .ref ma, .ref mh, .ref mg, .ref mc, .ref mo, .ref mr, .ref mf, .long wp, .long (LFb up C wl 600), .int (nI ru), .int (nI sm), .ref mk, .ref ml]))]) (ws2 := [(h0, .inr (6, [.int (nI thr), .int (nI mi), .int (nI me), .int (nI dp), .int (bI up), .int (nI dn), .ref mx, .ref ma, .ref mh, .ref mg, .ref mc, .ref mo, .ref mr, .ref mf, .long wp, .long (LFb up C wl 600), .int (nI ru), .int (nI sm), .ref mk, .ref ml])), (ma, .inl (cI, 600, .inl (nA C))), (mx, .inl (cI, 600, .inl (nA (NXb up C (clr 0 NX 600) 600))))]) hP hD hS hA [0] rfl rfl rfl (va_runV (As := []) (rest := []) ⟨hx, hb, hml, hown, hts⟩ (c_X6_swap l D cI cJ cZ h0 thr mi me dp up dn ma mx mh mg mc mo mr mf mk ml wp (LFb up C wl 600) ru sm H.size) (cwV 0 hts gX6_blow_X6_swap rfl rfl rfl (by decide +kernel) ⟨Nat.le_of_ble_eq_true rfl, Nat.le_of_ble_eq_true rfl⟩) (pvV hT hP hD [0] rfl rfl 0 rfl rfl) rfl rfl hl.1 rfl (lv_room (Nat.le_of_ble_eq_true rfl)) dX6_blow_99 ⟨Nat.zero_le _, Nat.zero_le _⟩) (fun H locs hP hD hS => ?_)
      exact fin_v hx hb hr hlocks hP hD hS dX6_blow_102
    | succ n9 ih =>
      intro n hcntn H locs hP hD hS ls hl
      have hltn : n < 600 := by omega
      refine lv_iload_n hx hb dX6_blow_6 rfl (lv_at hl 1 rfl) ?_
      refine lv_sipush (v := nI 600) hx hb dX6_blow_7 (by decide) ?_
      refine ci_ge (tgt := 98) hx hb dX6_blow_10 (by decide) (nT (by omega)) (nT (by omega)) (fun c_10 => by omega) (fun c_10 => ?_)
      refine lv_aload_n hx hb dX6_blow_13 rfl (lv_at hl 0 rfl) ?_
      refine va_get (D := D) (ci := 6) (v := .int (bI up)) (C := RX6) (T := TX6) (N := 20) hx hb hts hinX6 hown hK hP 0 rfl rfl 4 (by decide) hf76 (fun _ h9 => h9) rfl dX6_blow_14 ?_
      refine cb_eq (tgt := 27) hx hb dX6_blow_17 (by decide) (fun c_17 => ?_) (fun c_17 => ?_)
      · have hbt : bto up n = (n : Int) - 30 := if_neg (by rw [c_17]; decide)
        refine lv_iload_n hx hb dX6_blow_27 rfl (lv_at hl 1 rfl) ?_
        refine lv_bipush (v := nI 30) hx hb dX6_blow_28 (by decide) ?_
        refine lv_isub hx hb dX6_blow_30 ?_
        refine tp_i (zn_sub _ _) ?_
        refine lv_istore_n (lv' := [(2, .int (zI (((n) : Int) - ((30) : Int)))), (0, .ref h0), (1, .int (nI n))]) hx hb dX6_blow_31 rfl hl (by decide) rfl (fun ls hl => ?_)
        refine lv_iload_n hx hb dX6_blow_32 rfl (lv_at hl 2 rfl) ?_
        refine lv_iconst (v := nI 3) hx hb dX6_blow_33 (by decide) ?_
        refine lv_irem hx hb dX6_blow_34 (by decide) ?_
        refine tp_i (pk_rem (by omega) (by omega) (by omega)) ?_
        refine lv_iconst (v := nI 1) hx hb dX6_blow_35 (by decide) ?_
        refine lv_iadd hx hb dX6_blow_36 ?_
        refine tp_i (nI_add _ _) ?_
        refine lv_istore_n (lv' := [(3, .int (nI ((n % 3) + 1))), (2, .int (zI (((n) : Int) - ((30) : Int)))), (0, .ref h0), (1, .int (nI n))]) hx hb dX6_blow_37 rfl hl (by decide) rfl (fun ls hl => ?_)
        rcases Decidable.em (0 ≤ bto up n ∧ bto up n ≤ 599) with hz | hz
        · have hz2 := hz
          rw [hbt] at hz2
          have htn : (bto up n).toNat = n - 30 := by rw [hbt]; omega
          have hN9 : NXb up C (clr 0 NX 600) (n + 1) = uN (NXb up C (clr 0 NX 600) n) (n - 30) (NXb up C (clr 0 NX 600) n (n - 30) + C n) := by show (if 0 ≤ bto up n ∧ bto up n ≤ 599 then uN (NXb up C (clr 0 NX 600) n) (bto up n).toNat (NXb up C (clr 0 NX 600) n (bto up n).toNat + C n) else NXb up C (clr 0 NX 600) n) = _; rw [if_pos hz, htn]
          have hL9 : LFb up C wl (n + 1) = LFb up C wl n := if_pos hz
          refine lv_iload_n hx hb dX6_blow_38 rfl (lv_at hl 1 rfl) ?_
          refine tp_i (show (zI (((n) : Int) - ((30) : Int)) : Int32) = nI (n - 30) from z_n (by omega)) ?_
          refine lv_iconst (v := nI 0) hx hb dX6_blow_39 (by decide) ?_
          refine lv_sipush (v := nI 599) hx hb dX6_blow_40 (by decide) ?_
          refine cr_i (wc := []) (w1 := []) (ws2 := [(h0, .inr (6, [.int (nI thr), .int (nI mi), .int (nI me), .int (nI dp), .int (bI up), .int (nI dn), .ref ma, .ref mx, .ref mh, .ref mg, .ref mc, .ref mo, .ref mr, .ref mf, .long wp, .long (LFb up C wl n), .int (nI ru), .int (nI sm), .ref mk, .ref ml])), (ma, .inl (cI, 600, .inl (nA C))), (mx, .inl (cI, 600, .inl (nA (NXb up C (clr 0 NX 600) n))))]) hP hD hS hA [] rfl rfl rfl (va_runS (As := [.int (nI (n - 30)), .int (nI 0), .int (nI 599)]) (rest := []) ⟨hx, hb, hml, hown, hts⟩ (c_X6_in_T l D cI cJ cZ (n - 30) 0 599 (by omega) (by omega) (by omega) H.size) (va_cwS 3 hts gX6_blow_X6_in rfl rfl rfl (by decide +kernel) ⟨Nat.le_of_ble_eq_true rfl, Nat.le_of_ble_eq_true rfl⟩) (pvS hT hP hD [] rfl rfl) rfl rfl hl.1 rfl (lv_room (Nat.le_of_ble_eq_true rfl)) dX6_blow_43 ⟨Nat.zero_le _, Nat.zero_le _⟩) (fun H locs hP hD hS => ?_)
          refine cb_eq (tgt := 67) hx hb dX6_blow_46 (by decide) (fun c_46 => absurd c_46 (by decide)) (fun c_46 => ?_)
          refine lv_aload_n hx hb dX6_blow_49 rfl (lv_at hl 2 rfl) ?_
          refine va_get (D := D) (ci := 6) (v := .ref mx) (C := RX6) (T := TX6) (N := 20) hx hb hts hinX6 hown hK hP 0 rfl rfl 7 (by decide) hf17 (fun _ h9 => h9) rfl dX6_blow_50 ?_
          refine lv_iload_n hx hb dX6_blow_53 rfl (lv_at hl 1 rfl) ?_
          refine tp_i (show (zI (((n) : Int) - ((30) : Int)) : Int32) = nI (n - 30) from z_n (by omega)) ?_
          refine lv_dup2_11 hx hb dX6_blow_54 rfl rfl ?_
          refine ald_N hx hb hK hP 2 0 rfl rfl (n - 30) rfl (by omega) (Nat.le_of_ble_eq_true rfl) dX6_blow_55 ?_
          refine lv_aload_n hx hb dX6_blow_56 rfl (lv_at hl 2 rfl) ?_
          refine va_get (D := D) (ci := 6) (v := .ref ma) (C := RX6) (T := TX6) (N := 20) hx hb hts hinX6 hown hK hP 0 rfl rfl 6 (by decide) hf13 (fun _ h9 => h9) rfl dX6_blow_57 ?_
          refine lv_iload_n hx hb dX6_blow_60 rfl (lv_at hl 3 rfl) ?_
          refine ald_N hx hb hK hP 1 0 rfl rfl n rfl (by omega) (Nat.le_of_ble_eq_true rfl) dX6_blow_61 ?_
          refine lv_iadd hx hb dX6_blow_62 ?_
          refine tp_i (nI_add _ _) ?_
          refine ast_N (x := ((NXb up C (clr 0 NX 600) n) (n - 30)) + (C n)) hx hb hK hP hD hS 2 0 rfl rfl (n - 30) rfl (by omega) (Nat.le_of_ble_eq_true rfl) dX6_blow_63 (fun H locs hP hD hS => ?_)
          have hP : va_P D vwCl [(h0, .inr (6, [.int (nI thr), .int (nI mi), .int (nI me), .int (nI dp), .int (bI up), .int (nI dn), .ref ma, .ref mx, .ref mh, .ref mg, .ref mc, .ref mo, .ref mr, .ref mf, .long wp, .long (LFb up C wl n), .int (nI ru), .int (nI sm), .ref mk, .ref ml])), (ma, .inl (cI, 600, .inl (nA C))), (mx, .inl (cI, 600, .inl (nA (uN (NXb up C (clr 0 NX 600) n) (n - 30) (((NXb up C (clr 0 NX 600) n) (n - 30)) + (C n))))))] H := hP
          have hD : va_D A [(h0, .inr (6, [.int (nI thr), .int (nI mi), .int (nI me), .int (nI dp), .int (bI up), .int (nI dn), .ref ma, .ref mx, .ref mh, .ref mg, .ref mc, .ref mo, .ref mr, .ref mf, .long wp, .long (LFb up C wl n), .int (nI ru), .int (nI sm), .ref mk, .ref ml])), (ma, .inl (cI, 600, .inl (nA C))), (mx, .inl (cI, 600, .inl (nA (uN (NXb up C (clr 0 NX 600) n) (n - 30) (((NXb up C (clr 0 NX 600) n) (n - 30)) + (C n))))))] := hD
          refine lv_goto (tgt := 92) hx hb dX6_blow_64 (by decide) ?_
          refine lv_iinc (v := nI (n + 1)) (lv' := [(1, .int (nI (n + 1))), (3, .int (nI ((n % 3) + 1))), (2, .int (zI (((n) : Int) - ((30) : Int)))), (0, .ref h0)]) hx hb dX6_blow_92 hl (k := 3) rfl (n_inc n) (by decide) rfl (fun ls hl => ?_)
          refine lv_goto (tgt := 6) hx hb dX6_blow_95 (by decide) ?_
          have hwe : ([(h0, .inr (6, [.int (nI thr), .int (nI mi), .int (nI me), .int (nI dp), .int (bI up), .int (nI dn), .ref ma, .ref mx, .ref mh, .ref mg, .ref mc, .ref mo, .ref mr, .ref mf, .long wp, .long (LFb up C wl (n + 1)), .int (nI ru), .int (nI sm), .ref mk, .ref ml])), (ma, .inl (cI, 600, .inl (nA C))), (mx, .inl (cI, 600, .inl (nA (NXb up C (clr 0 NX 600) (n + 1)))))] : va_W) = [(h0, .inr (6, [.int (nI thr), .int (nI mi), .int (nI me), .int (nI dp), .int (bI up), .int (nI dn), .ref ma, .ref mx, .ref mh, .ref mg, .ref mc, .ref mo, .ref mr, .ref mf, .long wp, .long (LFb up C wl n), .int (nI ru), .int (nI sm), .ref mk, .ref ml])), (ma, .inl (cI, 600, .inl (nA C))), (mx, .inl (cI, 600, .inl (nA (uN (NXb up C (clr 0 NX 600) n) (n - 30) (((NXb up C (clr 0 NX 600) n) (n - 30)) + (C n))))))] := (by rw [hN9, hL9]; first | done | rfl)
          exact ih (n + 1) (by omega) H locs (by rw [hwe]; exact hP) (by rw [hwe]; exact hD) hS ls (lv_sub hl [3, 0] rfl)
        · have hz2 := hz
          rw [hbt] at hz2
          have hN9 : NXb up C (clr 0 NX 600) (n + 1) = NXb up C (clr 0 NX 600) n := if_neg hz
          have hL9 : LFb up C wl (n + 1) = LFb up C wl n + wtm (C n) (n % 3 + 1) := if_neg hz
          refine lv_iload_n hx hb dX6_blow_38 rfl (lv_at hl 1 rfl) ?_
          refine lv_iconst (v := nI 0) hx hb dX6_blow_39 (by decide) ?_
          refine lv_sipush (v := nI 599) hx hb dX6_blow_40 (by decide) ?_
          refine cr_i (wc := []) (w1 := []) (ws2 := [(h0, .inr (6, [.int (nI thr), .int (nI mi), .int (nI me), .int (nI dp), .int (bI up), .int (nI dn), .ref ma, .ref mx, .ref mh, .ref mg, .ref mc, .ref mo, .ref mr, .ref mf, .long wp, .long (LFb up C wl n), .int (nI ru), .int (nI sm), .ref mk, .ref ml])), (ma, .inl (cI, 600, .inl (nA C))), (mx, .inl (cI, 600, .inl (nA (NXb up C (clr 0 NX 600) n))))]) hP hD hS hA [] rfl rfl rfl (va_runS (As := [.int (zI (((n) : Int) - ((30) : Int))), .int (nI 0), .int (nI 599)]) (rest := []) ⟨hx, hb, hml, hown, hts⟩ (c_X6_in_F l D cI cJ cZ (zI (((n) : Int) - ((30) : Int))) 0 599 (by rw [zT (by omega) (by omega)]; omega) (by omega) (by omega) H.size) (va_cwS 3 hts gX6_blow_X6_in rfl rfl rfl (by decide +kernel) ⟨Nat.le_of_ble_eq_true rfl, Nat.le_of_ble_eq_true rfl⟩) (pvS hT hP hD [] rfl rfl) rfl rfl hl.1 rfl (lv_room (Nat.le_of_ble_eq_true rfl)) dX6_blow_43 ⟨Nat.zero_le _, Nat.zero_le _⟩) (fun H locs hP hD hS => ?_)
          refine cb_eq (tgt := 67) hx hb dX6_blow_46 (by decide) (fun c_46 => ?_) (fun c_46 => absurd c_46 (by decide))
          refine lv_aload_n hx hb dX6_blow_67 rfl (lv_at hl 2 rfl) ?_
          refine lv_dup hx hb dX6_blow_68 rfl ?_
          refine va_get (D := D) (ci := 6) (v := .long (LFb up C wl n)) (C := RX6) (T := TX6) (N := 20) hx hb hts hinX6 hown hK hP 0 rfl rfl 15 (by decide) hf92 (fun _ h9 => h9) rfl dX6_blow_69 ?_
          refine lv_aload_n hx hb dX6_blow_72 rfl (lv_at hl 2 rfl) ?_
          refine va_get (D := D) (ci := 6) (v := .ref ma) (C := RX6) (T := TX6) (N := 20) hx hb hts hinX6 hown hK hP 0 rfl rfl 6 (by decide) hf13 (fun _ h9 => h9) rfl dX6_blow_73 ?_
          refine lv_iload_n hx hb dX6_blow_76 rfl (lv_at hl 3 rfl) ?_
          refine ald_N hx hb hK hP 1 0 rfl rfl n rfl (by omega) (Nat.le_of_ble_eq_true rfl) dX6_blow_77 ?_
          refine lv_i2l (v := (nI (C n)).toInt64) hx hb dX6_blow_78 rfl ?_
          refine lv_iload_n hx hb dX6_blow_79 rfl (lv_at hl 0 rfl) ?_
          refine lv_i2l (v := (nI ((n % 3) + 1)).toInt64) hx hb dX6_blow_80 rfl ?_
          refine lv_lmul hx hb dX6_blow_81 ?_
          refine lv_iload_n hx hb dX6_blow_82 rfl (lv_at hl 0 rfl) ?_
          refine lv_i2l (v := (nI ((n % 3) + 1)).toInt64) hx hb dX6_blow_83 rfl ?_
          refine lv_lmul hx hb dX6_blow_84 ?_
          refine lv_iload_n hx hb dX6_blow_85 rfl (lv_at hl 0 rfl) ?_
          refine lv_i2l (v := (nI ((n % 3) + 1)).toInt64) hx hb dX6_blow_86 rfl ?_
          refine lv_lmul hx hb dX6_blow_87 ?_
          refine lv_ladd hx hb dX6_blow_88 ?_
          refine va_put (D := D) (ci := 6) (v := .long ((LFb up C wl n) + (((((nI (C n)).toInt64) * ((nI ((n % 3) + 1)).toInt64)) * ((nI ((n % 3) + 1)).toInt64)) * ((nI ((n % 3) + 1)).toInt64)))) (ty := .long) (C := RX6) (T := TX6) (N := 20) hx hb hts hinX6 tyX6 tyX6_ok nmX6 hown hK hP hD hS 0 rfl rfl 15 (by decide) hf92 (fun _ h9 => h9) rfl (by decide +kernel) rfl rfl (Nat.le_of_ble_eq_true rfl) dX6_blow_89 (fun H locs hP hD hS => ?_)
          have hP : va_P D vwCl [(h0, .inr (6, [.int (nI thr), .int (nI mi), .int (nI me), .int (nI dp), .int (bI up), .int (nI dn), .ref ma, .ref mx, .ref mh, .ref mg, .ref mc, .ref mo, .ref mr, .ref mf, .long wp, .long ((LFb up C wl n) + (((((nI (C n)).toInt64) * ((nI ((n % 3) + 1)).toInt64)) * ((nI ((n % 3) + 1)).toInt64)) * ((nI ((n % 3) + 1)).toInt64))), .int (nI ru), .int (nI sm), .ref mk, .ref ml])), (ma, .inl (cI, 600, .inl (nA C))), (mx, .inl (cI, 600, .inl (nA (NXb up C (clr 0 NX 600) n))))] H := hP
          have hD : va_D A [(h0, .inr (6, [.int (nI thr), .int (nI mi), .int (nI me), .int (nI dp), .int (bI up), .int (nI dn), .ref ma, .ref mx, .ref mh, .ref mg, .ref mc, .ref mo, .ref mr, .ref mf, .long wp, .long ((LFb up C wl n) + (((((nI (C n)).toInt64) * ((nI ((n % 3) + 1)).toInt64)) * ((nI ((n % 3) + 1)).toInt64)) * ((nI ((n % 3) + 1)).toInt64))), .int (nI ru), .int (nI sm), .ref mk, .ref ml])), (ma, .inl (cI, 600, .inl (nA C))), (mx, .inl (cI, 600, .inl (nA (NXb up C (clr 0 NX 600) n))))] := hD
          refine lv_iinc (v := nI (n + 1)) (lv' := [(1, .int (nI (n + 1))), (3, .int (nI ((n % 3) + 1))), (2, .int (zI (((n) : Int) - ((30) : Int)))), (0, .ref h0)]) hx hb dX6_blow_92 hl (k := 3) rfl (n_inc n) (by decide) rfl (fun ls hl => ?_)
          refine lv_goto (tgt := 6) hx hb dX6_blow_95 (by decide) ?_
          have hwe : ([(h0, .inr (6, [.int (nI thr), .int (nI mi), .int (nI me), .int (nI dp), .int (bI up), .int (nI dn), .ref ma, .ref mx, .ref mh, .ref mg, .ref mc, .ref mo, .ref mr, .ref mf, .long wp, .long (LFb up C wl (n + 1)), .int (nI ru), .int (nI sm), .ref mk, .ref ml])), (ma, .inl (cI, 600, .inl (nA C))), (mx, .inl (cI, 600, .inl (nA (NXb up C (clr 0 NX 600) (n + 1)))))] : va_W) = [(h0, .inr (6, [.int (nI thr), .int (nI mi), .int (nI me), .int (nI dp), .int (bI up), .int (nI dn), .ref ma, .ref mx, .ref mh, .ref mg, .ref mc, .ref mo, .ref mr, .ref mf, .long wp, .long ((LFb up C wl n) + (((((nI (C n)).toInt64) * ((nI ((n % 3) + 1)).toInt64)) * ((nI ((n % 3) + 1)).toInt64)) * ((nI ((n % 3) + 1)).toInt64))), .int (nI ru), .int (nI sm), .ref mk, .ref ml])), (ma, .inl (cI, 600, .inl (nA C))), (mx, .inl (cI, 600, .inl (nA (NXb up C (clr 0 NX 600) n))))] := (by rw [hN9, hL9]; first | done | rfl)
          exact ih (n + 1) (by omega) H locs (by rw [hwe]; exact hP) (by rw [hwe]; exact hD) hS ls (lv_sub hl [3, 0] rfl)
      · have hbt : bto up n = (n : Int) + 30 := if_pos c_17
        refine lv_iload_n hx hb dX6_blow_20 rfl (lv_at hl 1 rfl) ?_
        refine lv_bipush (v := nI 30) hx hb dX6_blow_21 (by decide) ?_
        refine lv_iadd hx hb dX6_blow_23 ?_
        refine tp_i (nI_add _ _) ?_
        refine lv_goto (tgt := 31) hx hb dX6_blow_24 (by decide) ?_
        refine lv_istore_n (lv' := [(2, .int (nI (n + 30))), (0, .ref h0), (1, .int (nI n))]) hx hb dX6_blow_31 rfl hl (by decide) rfl (fun ls hl => ?_)
        refine lv_iload_n hx hb dX6_blow_32 rfl (lv_at hl 2 rfl) ?_
        refine lv_iconst (v := nI 3) hx hb dX6_blow_33 (by decide) ?_
        refine lv_irem hx hb dX6_blow_34 (by decide) ?_
        refine tp_i (pk_rem (by omega) (by omega) (by omega)) ?_
        refine lv_iconst (v := nI 1) hx hb dX6_blow_35 (by decide) ?_
        refine lv_iadd hx hb dX6_blow_36 ?_
        refine tp_i (nI_add _ _) ?_
        refine lv_istore_n (lv' := [(3, .int (nI ((n % 3) + 1))), (2, .int (nI (n + 30))), (0, .ref h0), (1, .int (nI n))]) hx hb dX6_blow_37 rfl hl (by decide) rfl (fun ls hl => ?_)
        rcases Decidable.em (0 ≤ bto up n ∧ bto up n ≤ 599) with hz | hz
        · have hz2 := hz
          rw [hbt] at hz2
          have htn : (bto up n).toNat = n + 30 := by rw [hbt]; omega
          have hN9 : NXb up C (clr 0 NX 600) (n + 1) = uN (NXb up C (clr 0 NX 600) n) (n + 30) (NXb up C (clr 0 NX 600) n (n + 30) + C n) := by show (if 0 ≤ bto up n ∧ bto up n ≤ 599 then uN (NXb up C (clr 0 NX 600) n) (bto up n).toNat (NXb up C (clr 0 NX 600) n (bto up n).toNat + C n) else NXb up C (clr 0 NX 600) n) = _; rw [if_pos hz, htn]
          have hL9 : LFb up C wl (n + 1) = LFb up C wl n := if_pos hz
          refine lv_iload_n hx hb dX6_blow_38 rfl (lv_at hl 1 rfl) ?_
          refine lv_iconst (v := nI 0) hx hb dX6_blow_39 (by decide) ?_
          refine lv_sipush (v := nI 599) hx hb dX6_blow_40 (by decide) ?_
          refine cr_i (wc := []) (w1 := []) (ws2 := [(h0, .inr (6, [.int (nI thr), .int (nI mi), .int (nI me), .int (nI dp), .int (bI up), .int (nI dn), .ref ma, .ref mx, .ref mh, .ref mg, .ref mc, .ref mo, .ref mr, .ref mf, .long wp, .long (LFb up C wl n), .int (nI ru), .int (nI sm), .ref mk, .ref ml])), (ma, .inl (cI, 600, .inl (nA C))), (mx, .inl (cI, 600, .inl (nA (NXb up C (clr 0 NX 600) n))))]) hP hD hS hA [] rfl rfl rfl (va_runS (As := [.int (nI (n + 30)), .int (nI 0), .int (nI 599)]) (rest := []) ⟨hx, hb, hml, hown, hts⟩ (c_X6_in_T l D cI cJ cZ (n + 30) 0 599 (by omega) (by omega) (by omega) H.size) (va_cwS 3 hts gX6_blow_X6_in rfl rfl rfl (by decide +kernel) ⟨Nat.le_of_ble_eq_true rfl, Nat.le_of_ble_eq_true rfl⟩) (pvS hT hP hD [] rfl rfl) rfl rfl hl.1 rfl (lv_room (Nat.le_of_ble_eq_true rfl)) dX6_blow_43 ⟨Nat.zero_le _, Nat.zero_le _⟩) (fun H locs hP hD hS => ?_)
          refine cb_eq (tgt := 67) hx hb dX6_blow_46 (by decide) (fun c_46 => absurd c_46 (by decide)) (fun c_46 => ?_)
          refine lv_aload_n hx hb dX6_blow_49 rfl (lv_at hl 2 rfl) ?_
          refine va_get (D := D) (ci := 6) (v := .ref mx) (C := RX6) (T := TX6) (N := 20) hx hb hts hinX6 hown hK hP 0 rfl rfl 7 (by decide) hf17 (fun _ h9 => h9) rfl dX6_blow_50 ?_
          refine lv_iload_n hx hb dX6_blow_53 rfl (lv_at hl 1 rfl) ?_
          refine lv_dup2_11 hx hb dX6_blow_54 rfl rfl ?_
          refine ald_N hx hb hK hP 2 0 rfl rfl (n + 30) rfl (by omega) (Nat.le_of_ble_eq_true rfl) dX6_blow_55 ?_
          refine lv_aload_n hx hb dX6_blow_56 rfl (lv_at hl 2 rfl) ?_
          refine va_get (D := D) (ci := 6) (v := .ref ma) (C := RX6) (T := TX6) (N := 20) hx hb hts hinX6 hown hK hP 0 rfl rfl 6 (by decide) hf13 (fun _ h9 => h9) rfl dX6_blow_57 ?_
          refine lv_iload_n hx hb dX6_blow_60 rfl (lv_at hl 3 rfl) ?_
          refine ald_N hx hb hK hP 1 0 rfl rfl n rfl (by omega) (Nat.le_of_ble_eq_true rfl) dX6_blow_61 ?_
          refine lv_iadd hx hb dX6_blow_62 ?_
          refine tp_i (nI_add _ _) ?_
          refine ast_N (x := ((NXb up C (clr 0 NX 600) n) (n + 30)) + (C n)) hx hb hK hP hD hS 2 0 rfl rfl (n + 30) rfl (by omega) (Nat.le_of_ble_eq_true rfl) dX6_blow_63 (fun H locs hP hD hS => ?_)
          have hP : va_P D vwCl [(h0, .inr (6, [.int (nI thr), .int (nI mi), .int (nI me), .int (nI dp), .int (bI up), .int (nI dn), .ref ma, .ref mx, .ref mh, .ref mg, .ref mc, .ref mo, .ref mr, .ref mf, .long wp, .long (LFb up C wl n), .int (nI ru), .int (nI sm), .ref mk, .ref ml])), (ma, .inl (cI, 600, .inl (nA C))), (mx, .inl (cI, 600, .inl (nA (uN (NXb up C (clr 0 NX 600) n) (n + 30) (((NXb up C (clr 0 NX 600) n) (n + 30)) + (C n))))))] H := hP
          have hD : va_D A [(h0, .inr (6, [.int (nI thr), .int (nI mi), .int (nI me), .int (nI dp), .int (bI up), .int (nI dn), .ref ma, .ref mx, .ref mh, .ref mg, .ref mc, .ref mo, .ref mr, .ref mf, .long wp, .long (LFb up C wl n), .int (nI ru), .int (nI sm), .ref mk, .ref ml])), (ma, .inl (cI, 600, .inl (nA C))), (mx, .inl (cI, 600, .inl (nA (uN (NXb up C (clr 0 NX 600) n) (n + 30) (((NXb up C (clr 0 NX 600) n) (n + 30)) + (C n))))))] := hD
          refine lv_goto (tgt := 92) hx hb dX6_blow_64 (by decide) ?_
          refine lv_iinc (v := nI (n + 1)) (lv' := [(1, .int (nI (n + 1))), (3, .int (nI ((n % 3) + 1))), (2, .int (nI (n + 30))), (0, .ref h0)]) hx hb dX6_blow_92 hl (k := 3) rfl (n_inc n) (by decide) rfl (fun ls hl => ?_)
          refine lv_goto (tgt := 6) hx hb dX6_blow_95 (by decide) ?_
          have hwe : ([(h0, .inr (6, [.int (nI thr), .int (nI mi), .int (nI me), .int (nI dp), .int (bI up), .int (nI dn), .ref ma, .ref mx, .ref mh, .ref mg, .ref mc, .ref mo, .ref mr, .ref mf, .long wp, .long (LFb up C wl (n + 1)), .int (nI ru), .int (nI sm), .ref mk, .ref ml])), (ma, .inl (cI, 600, .inl (nA C))), (mx, .inl (cI, 600, .inl (nA (NXb up C (clr 0 NX 600) (n + 1)))))] : va_W) = [(h0, .inr (6, [.int (nI thr), .int (nI mi), .int (nI me), .int (nI dp), .int (bI up), .int (nI dn), .ref ma, .ref mx, .ref mh, .ref mg, .ref mc, .ref mo, .ref mr, .ref mf, .long wp, .long (LFb up C wl n), .int (nI ru), .int (nI sm), .ref mk, .ref ml])), (ma, .inl (cI, 600, .inl (nA C))), (mx, .inl (cI, 600, .inl (nA (uN (NXb up C (clr 0 NX 600) n) (n + 30) (((NXb up C (clr 0 NX 600) n) (n + 30)) + (C n))))))] := (by rw [hN9, hL9]; first | done | rfl)
          exact ih (n + 1) (by omega) H locs (by rw [hwe]; exact hP) (by rw [hwe]; exact hD) hS ls (lv_sub hl [3, 0] rfl)
        · have hz2 := hz
          rw [hbt] at hz2
          have hN9 : NXb up C (clr 0 NX 600) (n + 1) = NXb up C (clr 0 NX 600) n := if_neg hz
          have hL9 : LFb up C wl (n + 1) = LFb up C wl n + wtm (C n) (n % 3 + 1) := if_neg hz
          refine lv_iload_n hx hb dX6_blow_38 rfl (lv_at hl 1 rfl) ?_
          refine lv_iconst (v := nI 0) hx hb dX6_blow_39 (by decide) ?_
          refine lv_sipush (v := nI 599) hx hb dX6_blow_40 (by decide) ?_
          refine cr_i (wc := []) (w1 := []) (ws2 := [(h0, .inr (6, [.int (nI thr), .int (nI mi), .int (nI me), .int (nI dp), .int (bI up), .int (nI dn), .ref ma, .ref mx, .ref mh, .ref mg, .ref mc, .ref mo, .ref mr, .ref mf, .long wp, .long (LFb up C wl n), .int (nI ru), .int (nI sm), .ref mk, .ref ml])), (ma, .inl (cI, 600, .inl (nA C))), (mx, .inl (cI, 600, .inl (nA (NXb up C (clr 0 NX 600) n))))]) hP hD hS hA [] rfl rfl rfl (va_runS (As := [.int (nI (n + 30)), .int (nI 0), .int (nI 599)]) (rest := []) ⟨hx, hb, hml, hown, hts⟩ (c_X6_in_F l D cI cJ cZ (nI (n + 30)) 0 599 (by rw [nT (by omega)]; omega) (by omega) (by omega) H.size) (va_cwS 3 hts gX6_blow_X6_in rfl rfl rfl (by decide +kernel) ⟨Nat.le_of_ble_eq_true rfl, Nat.le_of_ble_eq_true rfl⟩) (pvS hT hP hD [] rfl rfl) rfl rfl hl.1 rfl (lv_room (Nat.le_of_ble_eq_true rfl)) dX6_blow_43 ⟨Nat.zero_le _, Nat.zero_le _⟩) (fun H locs hP hD hS => ?_)
          refine cb_eq (tgt := 67) hx hb dX6_blow_46 (by decide) (fun c_46 => ?_) (fun c_46 => absurd c_46 (by decide))
          refine lv_aload_n hx hb dX6_blow_67 rfl (lv_at hl 2 rfl) ?_
          refine lv_dup hx hb dX6_blow_68 rfl ?_
          refine va_get (D := D) (ci := 6) (v := .long (LFb up C wl n)) (C := RX6) (T := TX6) (N := 20) hx hb hts hinX6 hown hK hP 0 rfl rfl 15 (by decide) hf92 (fun _ h9 => h9) rfl dX6_blow_69 ?_
          refine lv_aload_n hx hb dX6_blow_72 rfl (lv_at hl 2 rfl) ?_
          refine va_get (D := D) (ci := 6) (v := .ref ma) (C := RX6) (T := TX6) (N := 20) hx hb hts hinX6 hown hK hP 0 rfl rfl 6 (by decide) hf13 (fun _ h9 => h9) rfl dX6_blow_73 ?_
          refine lv_iload_n hx hb dX6_blow_76 rfl (lv_at hl 3 rfl) ?_
          refine ald_N hx hb hK hP 1 0 rfl rfl n rfl (by omega) (Nat.le_of_ble_eq_true rfl) dX6_blow_77 ?_
          refine lv_i2l (v := (nI (C n)).toInt64) hx hb dX6_blow_78 rfl ?_
          refine lv_iload_n hx hb dX6_blow_79 rfl (lv_at hl 0 rfl) ?_
          refine lv_i2l (v := (nI ((n % 3) + 1)).toInt64) hx hb dX6_blow_80 rfl ?_
          refine lv_lmul hx hb dX6_blow_81 ?_
          refine lv_iload_n hx hb dX6_blow_82 rfl (lv_at hl 0 rfl) ?_
          refine lv_i2l (v := (nI ((n % 3) + 1)).toInt64) hx hb dX6_blow_83 rfl ?_
          refine lv_lmul hx hb dX6_blow_84 ?_
          refine lv_iload_n hx hb dX6_blow_85 rfl (lv_at hl 0 rfl) ?_
          refine lv_i2l (v := (nI ((n % 3) + 1)).toInt64) hx hb dX6_blow_86 rfl ?_
          refine lv_lmul hx hb dX6_blow_87 ?_
          refine lv_ladd hx hb dX6_blow_88 ?_
          refine va_put (D := D) (ci := 6) (v := .long ((LFb up C wl n) + (((((nI (C n)).toInt64) * ((nI ((n % 3) + 1)).toInt64)) * ((nI ((n % 3) + 1)).toInt64)) * ((nI ((n % 3) + 1)).toInt64)))) (ty := .long) (C := RX6) (T := TX6) (N := 20) hx hb hts hinX6 tyX6 tyX6_ok nmX6 hown hK hP hD hS 0 rfl rfl 15 (by decide) hf92 (fun _ h9 => h9) rfl (by decide +kernel) rfl rfl (Nat.le_of_ble_eq_true rfl) dX6_blow_89 (fun H locs hP hD hS => ?_)
          have hP : va_P D vwCl [(h0, .inr (6, [.int (nI thr), .int (nI mi), .int (nI me), .int (nI dp), .int (bI up), .int (nI dn), .ref ma, .ref mx, .ref mh, .ref mg, .ref mc, .ref mo, .ref mr, .ref mf, .long wp, .long ((LFb up C wl n) + (((((nI (C n)).toInt64) * ((nI ((n % 3) + 1)).toInt64)) * ((nI ((n % 3) + 1)).toInt64)) * ((nI ((n % 3) + 1)).toInt64))), .int (nI ru), .int (nI sm), .ref mk, .ref ml])), (ma, .inl (cI, 600, .inl (nA C))), (mx, .inl (cI, 600, .inl (nA (NXb up C (clr 0 NX 600) n))))] H := hP
          have hD : va_D A [(h0, .inr (6, [.int (nI thr), .int (nI mi), .int (nI me), .int (nI dp), .int (bI up), .int (nI dn), .ref ma, .ref mx, .ref mh, .ref mg, .ref mc, .ref mo, .ref mr, .ref mf, .long wp, .long ((LFb up C wl n) + (((((nI (C n)).toInt64) * ((nI ((n % 3) + 1)).toInt64)) * ((nI ((n % 3) + 1)).toInt64)) * ((nI ((n % 3) + 1)).toInt64))), .int (nI ru), .int (nI sm), .ref mk, .ref ml])), (ma, .inl (cI, 600, .inl (nA C))), (mx, .inl (cI, 600, .inl (nA (NXb up C (clr 0 NX 600) n))))] := hD
          refine lv_iinc (v := nI (n + 1)) (lv' := [(1, .int (nI (n + 1))), (3, .int (nI ((n % 3) + 1))), (2, .int (nI (n + 30))), (0, .ref h0)]) hx hb dX6_blow_92 hl (k := 3) rfl (n_inc n) (by decide) rfl (fun ls hl => ?_)
          refine lv_goto (tgt := 6) hx hb dX6_blow_95 (by decide) ?_
          have hwe : ([(h0, .inr (6, [.int (nI thr), .int (nI mi), .int (nI me), .int (nI dp), .int (bI up), .int (nI dn), .ref ma, .ref mx, .ref mh, .ref mg, .ref mc, .ref mo, .ref mr, .ref mf, .long wp, .long (LFb up C wl (n + 1)), .int (nI ru), .int (nI sm), .ref mk, .ref ml])), (ma, .inl (cI, 600, .inl (nA C))), (mx, .inl (cI, 600, .inl (nA (NXb up C (clr 0 NX 600) (n + 1)))))] : va_W) = [(h0, .inr (6, [.int (nI thr), .int (nI mi), .int (nI me), .int (nI dp), .int (bI up), .int (nI dn), .ref ma, .ref mx, .ref mh, .ref mg, .ref mc, .ref mo, .ref mr, .ref mf, .long wp, .long ((LFb up C wl n) + (((((nI (C n)).toInt64) * ((nI ((n % 3) + 1)).toInt64)) * ((nI ((n % 3) + 1)).toInt64)) * ((nI ((n % 3) + 1)).toInt64))), .int (nI ru), .int (nI sm), .ref mk, .ref ml])), (ma, .inl (cI, 600, .inl (nA C))), (mx, .inl (cI, 600, .inl (nA (NXb up C (clr 0 NX 600) n))))] := (by rw [hN9, hL9]; first | done | rfl)
          exact ih (n + 1) (by omega) H locs (by rw [hwe]; exact hP) (by rw [hwe]; exact hD) hS ls (lv_sub hl [3, 0] rfl)
  have hwe : ([(h0, .inr (6, [.int (nI thr), .int (nI mi), .int (nI me), .int (nI dp), .int (bI up), .int (nI dn), .ref ma, .ref mx, .ref mh, .ref mg, .ref mc, .ref mo, .ref mr, .ref mf, .long wp, .long (LFb up C wl 0), .int (nI ru), .int (nI sm), .ref mk, .ref ml])), (ma, .inl (cI, 600, .inl (nA C))), (mx, .inl (cI, 600, .inl (nA (NXb up C (clr 0 NX 600) 0))))] : va_W) = [(h0, .inr (6, [.int (nI thr), .int (nI mi), .int (nI me), .int (nI dp), .int (bI up), .int (nI dn), .ref ma, .ref mx, .ref mh, .ref mg, .ref mc, .ref mo, .ref mr, .ref mf, .long wp, .long wl, .int (nI ru), .int (nI sm), .ref mk, .ref ml])), (ma, .inl (cI, 600, .inl (nA C))), (mx, .inl (cI, 600, .inl (nA (clr 0 NX 600))))] := rfl
  exact lp6 600 0 (by omega) H locs (by rw [hwe]; exact hP) (by rw [hwe]; exact hD) hS ls (lv_sub hl [1, 0] rfl)
set_option maxHeartbeats 4000000 in
set_option maxRecDepth 100000 in
theorem c_X6_pass (l : Launch) (D : va_G) (cI cJ cZ : ClassId) (h0 : Nat) (thr : Nat) (mi : Nat) (me : Nat) (dp : Nat) (up : Bool) (dn : Nat) (ma : Nat) (mx : Nat) (mh : Nat) (mg : Nat) (mc : Nat) (mo : Nat) (mr : Nat) (mf : Nat) (mk : Nat) (ml : Nat) (wp : Int64) (wl : Int64) (ru : Nat) (sm : Nat) (C : Nat → Nat) (NX : Nat → Nat) (UP : Nat → Bool) (CL : Nat → Bool) (CO : Nat → Int64) (GR : Nat → Int64) (FA : Nat → Int64) (mn : Nat) (hm1 : 1 ≤ mn) (hm2 : mn ≤ 60) (hmm : mi + mn ≤ 600) (hme : me < 10) (hdp : dp ≤ 60) (sz : Nat) : Met l yX6_pass wsX6_pass ({ frames := 2, cells := 0, slots := 0, locals := 45 } : Room) (va_Pc [.ref h0, .int (nI mn)] (mPre D cI cJ cZ [(h0, .inr (6, [.int (nI thr), .int (nI mi), .int (nI me), .int (nI dp), .int (bI up), .int (nI dn), .ref ma, .ref mx, .ref mh, .ref mg, .ref mc, .ref mo, .ref mr, .ref mf, .long wp, .long wl, .int (nI ru), .int (nI sm), .ref mk, .ref ml])), (ma, .inl (cI, 600, .inl (nA C))), (mx, .inl (cI, 600, .inl (nA NX))), (mg, .inl (cZ, 20, .inl (bA UP))), (mc, .inl (cZ, 20, .inl (bA CL))), (mo, .inl (cJ, 20, .inr (.inl CO))), (mr, .inl (cJ, 20, .inr (.inl GR))), (mf, .inl (cJ, 20, .inr (.inl FA)))] sz)) (Qi2 D (va_A [(h0, .inr (6, [.int (nI thr), .int (nI mi), .int (nI me), .int (nI dp), .int (bI up), .int (nI dn), .ref ma, .ref mx, .ref mh, .ref mg, .ref mc, .ref mo, .ref mr, .ref mf, .long wp, .long wl, .int (nI ru), .int (nI sm), .ref mk, .ref ml])), (ma, .inl (cI, 600, .inl (nA C))), (mx, .inl (cI, 600, .inl (nA NX))), (mg, .inl (cZ, 20, .inl (bA UP))), (mc, .inl (cZ, 20, .inl (bA CL))), (mo, .inl (cJ, 20, .inr (.inl CO))), (mr, .inl (cJ, 20, .inr (.inl GR))), (mf, .inl (cJ, 20, .inr (.inl FA)))] sz) (fun pa px => [(h0, .inr (6, [.int (nI 0), .int (nI (mi + mn)), .int (nI me), .int (nI dp), .int (bI up), .int (nI dn), .ref pa, .ref px, .ref mh, .ref mg, .ref mc, .ref mo, .ref mr, .ref mf, .long wp, .long ((pmv me dp up UP CL mi (C, NX, GR, CO, FA, wl) mn).2.2.2.2.2), .int (nI ru), .int (nI sm), .ref mk, .ref ml])), (pa, .inl (cI, 600, .inl (nA ((pmv me dp up UP CL mi (C, NX, GR, CO, FA, wl) mn).1)))), (px, .inl (cI, 600, .inl (nA ((pmv me dp up UP CL mi (C, NX, GR, CO, FA, wl) mn).2.1)))), (mg, .inl (cZ, 20, .inl (bA UP))), (mc, .inl (cZ, 20, .inl (bA CL))), (mo, .inl (cJ, 20, .inr (.inl ((pmv me dp up UP CL mi (C, NX, GR, CO, FA, wl) mn).2.2.2.1)))), (mr, .inl (cJ, 20, .inr (.inl ((pmv me dp up UP CL mi (C, NX, GR, CO, FA, wl) mn).2.2.1)))), (mf, .inl (cJ, 20, .inr (.inl ((pmv me dp up UP CL mi (C, NX, GR, CO, FA, wl) mn).2.2.2.2.1))))]) (nI (mi + mn))) 0 0 (va_A [(h0, .inr (6, [.int (nI thr), .int (nI mi), .int (nI me), .int (nI dp), .int (bI up), .int (nI dn), .ref ma, .ref mx, .ref mh, .ref mg, .ref mc, .ref mo, .ref mr, .ref mf, .long wp, .long wl, .int (nI ru), .int (nI sm), .ref mk, .ref ml])), (ma, .inl (cI, 600, .inl (nA C))), (mx, .inl (cI, 600, .inl (nA NX))), (mg, .inl (cZ, 20, .inl (bA UP))), (mc, .inl (cZ, 20, .inl (bA CL))), (mo, .inl (cJ, 20, .inr (.inl CO))), (mr, .inl (cJ, 20, .inr (.inl GR))), (mf, .inl (cJ, 20, .inr (.inl FA)))] sz) := by
  refine Met.ofW (cc := cX6_pass) (maxL := 4) (ret := (some .int)) (by decide) rfl ?_
  intro p e s m args below meth c s₁ B hml hv
  obtain ⟨hargs, hsz, hP, hT, hD0⟩ := hv
  have hx := B.exec
  have hb := B.bytes
  have hr := B.returns
  have hts := atoms_spec (ws := wsX6_pass) B.pre
  have hown : s.vm.findClass RX6 = some m.cls := findClass_of_methodNamed B.named
  have hlocks := B.notSynchronized
  subst hsz
  have hK := hT.1
  have hD := hD0.self (sz := s.heap.size)
  generalize hAe : va_A [(h0, .inr (6, [.int (nI thr), .int (nI mi), .int (nI me), .int (nI dp), .int (bI up), .int (nI dn), .ref ma, .ref mx, .ref mh, .ref mg, .ref mc, .ref mo, .ref mr, .ref mf, .long wp, .long wl, .int (nI ru), .int (nI sm), .ref mk, .ref ml])), (ma, .inl (cI, 600, .inl (nA C))), (mx, .inl (cI, 600, .inl (nA NX))), (mg, .inl (cZ, 20, .inl (bA UP))), (mc, .inl (cZ, 20, .inl (bA CL))), (mo, .inl (cJ, 20, .inr (.inl CO))), (mr, .inl (cJ, 20, .inr (.inl GR))), (mf, .inl (cJ, 20, .inr (.inl FA)))] s.heap.size = A at hD ⊢
  have hA : ∀ q : Nat, s.heap.size ≤ q → A q := fun q h => by rw [← hAe]; exact Or.inr h
  have hS : va_S A s.heap s.heap [] := va_S.rf
  obtain ⟨H, hHe⟩ : ∃ H : Heap, H = s.heap := ⟨_, rfl⟩
  have hS : va_S A s.heap H [] := by rw [hHe]; exact va_S.rf
  rw [← hHe] at hP
  suffices K0 : W p l e (headSpec wsX6_pass ({ frames := 2, cells := 0, slots := 0, locals := 45 } : Room)).room s m args below meth c H [] 0 0 (MQ below (Qi2 D A (fun pa px => [(h0, .inr (6, [.int (nI 0), .int (nI (mi + mn)), .int (nI me), .int (nI dp), .int (bI up), .int (nI dn), .ref pa, .ref px, .ref mh, .ref mg, .ref mc, .ref mo, .ref mr, .ref mf, .long wp, .long ((pmv me dp up UP CL mi (C, NX, GR, CO, FA, wl) mn).2.2.2.2.2), .int (nI ru), .int (nI sm), .ref mk, .ref ml])), (pa, .inl (cI, 600, .inl (nA ((pmv me dp up UP CL mi (C, NX, GR, CO, FA, wl) mn).1)))), (px, .inl (cI, 600, .inl (nA ((pmv me dp up UP CL mi (C, NX, GR, CO, FA, wl) mn).2.1)))), (mg, .inl (cZ, 20, .inl (bA UP))), (mc, .inl (cZ, 20, .inl (bA CL))), (mo, .inl (cJ, 20, .inr (.inl ((pmv me dp up UP CL mi (C, NX, GR, CO, FA, wl) mn).2.2.2.1)))), (mr, .inl (cJ, 20, .inr (.inl ((pmv me dp up UP CL mi (C, NX, GR, CO, FA, wl) mn).2.2.1)))), (mf, .inl (cJ, 20, .inr (.inl ((pmv me dp up UP CL mi (C, NX, GR, CO, FA, wl) mn).2.2.2.2.1))))]) (nI (mi + mn))) args s 0 0 A) (entryFrame m args 4) by rw [hHe] at K0; exact K0
  refine W.eq (g2 := entryFrame m ([.ref h0, .int (nI mn)] : List Value).toArray 4) (by rw [hargs]) ?_
  have hl := lv_entry ([.ref h0, .int (nI mn)]) (n := 4) (Nat.le_of_ble_eq_true rfl)
  rw [lg_entry_eq]
  generalize (lg_sl ([.ref h0, .int (nI mn)]) ++ List.replicate (4 - (lg_sl ([.ref h0, .int (nI mn)])).length) Slot.unset).toArray = ls at hl ⊢
  have hl : lv_has ls 4 [(0, .ref h0), (1, .int (nI mn))] := hl
  generalize ([] : List Loc) = locs at hS ⊢
  have hinX6 : ∀ w ∈ wsX60, w ∈ wsX6_pass := by decide +kernel
  have hf95 := hts (.fieldLink RX6 95 "BrightbandModel" "minute" "I") (by decide +kernel)
  have hf73 := hts (.fieldLink RX6 73 "BrightbandModel" "period" "I") (by decide +kernel)
  refine lv_iload_n hx hb dX6_pass_0 rfl (lv_at hl 1 rfl) ?_
  refine lv_iconst (v := nI 1) hx hb dX6_pass_1 (by decide) ?_
  refine lv_bipush (v := nI 60) hx hb dX6_pass_2 (by decide) ?_
  refine cr_i (wc := []) (w1 := []) (ws2 := [(h0, .inr (6, [.int (nI thr), .int (nI mi), .int (nI me), .int (nI dp), .int (bI up), .int (nI dn), .ref ma, .ref mx, .ref mh, .ref mg, .ref mc, .ref mo, .ref mr, .ref mf, .long wp, .long wl, .int (nI ru), .int (nI sm), .ref mk, .ref ml])), (ma, .inl (cI, 600, .inl (nA C))), (mx, .inl (cI, 600, .inl (nA NX))), (mg, .inl (cZ, 20, .inl (bA UP))), (mc, .inl (cZ, 20, .inl (bA CL))), (mo, .inl (cJ, 20, .inr (.inl CO))), (mr, .inl (cJ, 20, .inr (.inl GR))), (mf, .inl (cJ, 20, .inr (.inl FA)))]) hP hD hS hA [] rfl rfl rfl (va_runS (As := [.int (nI mn), .int (nI 1), .int (nI 60)]) (rest := []) ⟨hx, hb, hml, hown, hts⟩ (c_X6_in_T l D cI cJ cZ mn 1 60 (by omega) (by omega) (by omega) H.size) (va_cwS 3 hts gX6_pass_X6_in rfl rfl rfl (by decide +kernel) ⟨Nat.le_of_ble_eq_true rfl, Nat.le_of_ble_eq_true rfl⟩) (pvS hT hP hD [] rfl rfl) rfl rfl hl.1 rfl (lv_room (Nat.le_of_ble_eq_true rfl)) dX6_pass_4 ⟨Nat.zero_le _, Nat.zero_le _⟩) (fun H locs hP hD hS => ?_)
  refine lv_istore_n (lv' := [(2, .int (bI true)), (0, .ref h0), (1, .int (nI mn))]) hx hb dX6_pass_7 rfl hl (by decide) rfl (fun ls hl => ?_)
  refine lv_aload_n hx hb dX6_pass_8 rfl (lv_at hl 1 rfl) ?_
  refine lv_iload_n hx hb dX6_pass_9 rfl (lv_at hl 0 rfl) ?_
  refine cb_ne (tgt := 17) hx hb dX6_pass_10 (by decide) (fun c_10 => ?_) (fun c_10 => absurd c_10 (by decide))
  refine lv_aload_n hx hb dX6_pass_17 rfl (lv_at hl 1 rfl) ?_
  refine va_get (D := D) (ci := 6) (v := .int (nI mi)) (C := RX6) (T := TX6) (N := 20) hx hb hts hinX6 hown hK hP 0 rfl rfl 1 (by decide) hf95 (fun _ h9 => h9) rfl dX6_pass_18 ?_
  refine lv_iload_n hx hb dX6_pass_21 rfl (lv_at hl 2 rfl) ?_
  refine lv_iadd hx hb dX6_pass_22 ?_
  refine tp_i (nI_add _ _) ?_
  refine lv_sipush (v := nI 600) hx hb dX6_pass_23 (by decide) ?_
  refine ci_le (tgt := 33) hx hb dX6_pass_26 (by decide) (nT (by omega)) (nT (by omega)) (fun c_26 => ?_) (fun c_26 => by omega)
  refine lv_iconst (v := nI 0) hx hb dX6_pass_33 (by decide) ?_
  refine cr_i (wc := [(h0, .inr (6, [.int (nI thr), .int (nI mi), .int (nI me), .int (nI dp), .int (bI up), .int (nI dn), .ref ma, .ref mx, .ref mh, .ref mg, .ref mc, .ref mo, .ref mr, .ref mf, .long wp, .long wl, .int (nI ru), .int (nI sm), .ref mk, .ref ml]))]) (w1 := [(h0, .inr (6, [.int (nI 0), .int (nI mi), .int (nI me), .int (nI dp), .int (bI up), .int (nI dn), .ref ma, .ref mx, .ref mh, .ref mg, .ref mc, .ref mo, .ref mr, .ref mf, .long wp, .long wl, .int (nI ru), .int (nI sm), .ref mk, .ref ml]))]) (ws2 := [(h0, .inr (6, [.int (nI 0), .int (nI mi), .int (nI me), .int (nI dp), .int (bI up), .int (nI dn), .ref ma, .ref mx, .ref mh, .ref mg, .ref mc, .ref mo, .ref mr, .ref mf, .long wp, .long wl, .int (nI ru), .int (nI sm), .ref mk, .ref ml])), (ma, .inl (cI, 600, .inl (nA C))), (mx, .inl (cI, 600, .inl (nA NX))), (mg, .inl (cZ, 20, .inl (bA UP))), (mc, .inl (cZ, 20, .inl (bA CL))), (mo, .inl (cJ, 20, .inr (.inl CO))), (mr, .inl (cJ, 20, .inr (.inl GR))), (mf, .inl (cJ, 20, .inr (.inl FA)))]) hP hD hS hA [0] rfl rfl rfl (va_runV (As := [.int (nI 0)]) (rest := []) ⟨hx, hb, hml, hown, hts⟩ (c_X6_goesWell_ok l D cI cJ cZ h0 thr mi me dp up dn ma mx mh mg mc mo mr mf mk ml wp wl ru sm H.size) (cwV 1 hts gX6_pass_X6_goesWell rfl rfl rfl (by decide +kernel) ⟨Nat.le_of_ble_eq_true rfl, Nat.le_of_ble_eq_true rfl⟩) (pvV hT hP hD [0] rfl rfl 0 rfl rfl) rfl rfl hl.1 rfl (lv_room (Nat.le_of_ble_eq_true rfl)) dX6_pass_34 ⟨Nat.zero_le _, Nat.zero_le _⟩) (fun H locs hP hD hS => ?_)
  refine cb_ne (tgt := 42) hx hb dX6_pass_37 (by decide) (fun c_37 => ?_) (fun c_37 => absurd c_37 (by decide))
  refine lv_iconst (v := nI 0) hx hb dX6_pass_42 (by decide) ?_
  refine lv_istore_n (lv' := [(3, .int (nI 0)), (2, .int (bI true)), (0, .ref h0), (1, .int (nI mn))]) hx hb dX6_pass_43 rfl hl (by decide) rfl (fun ls hl => ?_)
  have lp44 : ∀ (n i : Nat), i + n = mn → ∀ (pa : Nat) (px : Nat) (H : Heap) (locs : List Loc), va_P D vwCl [(h0, .inr (6, [.int (nI 0), .int (nI (mi + i)), .int (nI me), .int (nI dp), .int (bI up), .int (nI dn), .ref pa, .ref px, .ref mh, .ref mg, .ref mc, .ref mo, .ref mr, .ref mf, .long wp, .long ((pmv me dp up UP CL mi (C, NX, GR, CO, FA, wl) i).2.2.2.2.2), .int (nI ru), .int (nI sm), .ref mk, .ref ml])), (pa, .inl (cI, 600, .inl (nA ((pmv me dp up UP CL mi (C, NX, GR, CO, FA, wl) i).1)))), (px, .inl (cI, 600, .inl (nA ((pmv me dp up UP CL mi (C, NX, GR, CO, FA, wl) i).2.1)))), (mg, .inl (cZ, 20, .inl (bA UP))), (mc, .inl (cZ, 20, .inl (bA CL))), (mo, .inl (cJ, 20, .inr (.inl ((pmv me dp up UP CL mi (C, NX, GR, CO, FA, wl) i).2.2.2.1)))), (mr, .inl (cJ, 20, .inr (.inl ((pmv me dp up UP CL mi (C, NX, GR, CO, FA, wl) i).2.2.1)))), (mf, .inl (cJ, 20, .inr (.inl ((pmv me dp up UP CL mi (C, NX, GR, CO, FA, wl) i).2.2.2.2.1))))] H → va_D A [(h0, .inr (6, [.int (nI 0), .int (nI (mi + i)), .int (nI me), .int (nI dp), .int (bI up), .int (nI dn), .ref pa, .ref px, .ref mh, .ref mg, .ref mc, .ref mo, .ref mr, .ref mf, .long wp, .long ((pmv me dp up UP CL mi (C, NX, GR, CO, FA, wl) i).2.2.2.2.2), .int (nI ru), .int (nI sm), .ref mk, .ref ml])), (pa, .inl (cI, 600, .inl (nA ((pmv me dp up UP CL mi (C, NX, GR, CO, FA, wl) i).1)))), (px, .inl (cI, 600, .inl (nA ((pmv me dp up UP CL mi (C, NX, GR, CO, FA, wl) i).2.1)))), (mg, .inl (cZ, 20, .inl (bA UP))), (mc, .inl (cZ, 20, .inl (bA CL))), (mo, .inl (cJ, 20, .inr (.inl ((pmv me dp up UP CL mi (C, NX, GR, CO, FA, wl) i).2.2.2.1)))), (mr, .inl (cJ, 20, .inr (.inl ((pmv me dp up UP CL mi (C, NX, GR, CO, FA, wl) i).2.2.1)))), (mf, .inl (cJ, 20, .inr (.inl ((pmv me dp up UP CL mi (C, NX, GR, CO, FA, wl) i).2.2.2.2.1))))] → va_S A s.heap H locs → ∀ (ls : Array Slot), lv_has ls 4 [(0, .ref h0), (1, .int (nI mn)), (3, .int (nI i))] → W p l e (headSpec wsX6_pass ({ frames := 2, cells := 0, slots := 0, locals := 45 } : Room)).room s m args below meth c H locs 0 0 (MQ below (Qi2 D A (fun pa px => [(h0, .inr (6, [.int (nI 0), .int (nI (mi + mn)), .int (nI me), .int (nI dp), .int (bI up), .int (nI dn), .ref pa, .ref px, .ref mh, .ref mg, .ref mc, .ref mo, .ref mr, .ref mf, .long wp, .long ((pmv me dp up UP CL mi (C, NX, GR, CO, FA, wl) mn).2.2.2.2.2), .int (nI ru), .int (nI sm), .ref mk, .ref ml])), (pa, .inl (cI, 600, .inl (nA ((pmv me dp up UP CL mi (C, NX, GR, CO, FA, wl) mn).1)))), (px, .inl (cI, 600, .inl (nA ((pmv me dp up UP CL mi (C, NX, GR, CO, FA, wl) mn).2.1)))), (mg, .inl (cZ, 20, .inl (bA UP))), (mc, .inl (cZ, 20, .inl (bA CL))), (mo, .inl (cJ, 20, .inr (.inl ((pmv me dp up UP CL mi (C, NX, GR, CO, FA, wl) mn).2.2.2.1)))), (mr, .inl (cJ, 20, .inr (.inl ((pmv me dp up UP CL mi (C, NX, GR, CO, FA, wl) mn).2.2.1)))), (mf, .inl (cJ, 20, .inr (.inl ((pmv me dp up UP CL mi (C, NX, GR, CO, FA, wl) mn).2.2.2.2.1))))]) (nI (mi + mn))) args s 0 0 A) (F0 m 44 ls []) := by
    intro n
    induction n with
    | zero =>
      intro i hcnti pa px H locs hP hD hS ls hl
      obtain rfl : mn = i := by omega
      refine lv_iload_n hx hb dX6_pass_44 rfl (lv_at hl 2 rfl) ?_
      refine lv_iload_n hx hb dX6_pass_45 rfl (lv_at hl 1 rfl) ?_
      refine ci_ge (tgt := 92) hx hb dX6_pass_46 (by decide) (nT (by omega)) (nT (by omega)) (fun c_46 => ?_) (fun c_46 => by omega)
      refine lv_aload_n hx hb dX6_pass_92 rfl (lv_at hl 0 rfl) ?_
      refine va_get (D := D) (ci := 6) (v := .int (nI (mi + mn))) (C := RX6) (T := TX6) (N := 20) hx hb hts hinX6 hown hK hP 0 rfl rfl 1 (by decide) hf95 (fun _ h9 => h9) rfl dX6_pass_93 ?_
      exact fin_i2 hx hb hr hlocks pa px hP hD hS (rfl) dX6_pass_96
    | succ n ih =>
      intro i hcnti pa px H locs hP hD hS ls hl
      have hlti : i < mn := by omega
      refine lv_iload_n hx hb dX6_pass_44 rfl (lv_at hl 2 rfl) ?_
      refine lv_iload_n hx hb dX6_pass_45 rfl (lv_at hl 1 rfl) ?_
      refine ci_ge (tgt := 92) hx hb dX6_pass_46 (by decide) (nT (by omega)) (nT (by omega)) (fun c_46 => by omega) (fun c_46 => ?_)
      refine lv_aload_n hx hb dX6_pass_49 rfl (lv_at hl 0 rfl) ?_
      refine cr_v (wc := [(h0, .inr (6, [.int (nI 0), .int (nI (mi + i)), .int (nI me), .int (nI dp), .int (bI up), .int (nI dn), .ref pa, .ref px, .ref mh, .ref mg, .ref mc, .ref mo, .ref mr, .ref mf, .long wp, .long ((pmv me dp up UP CL mi (C, NX, GR, CO, FA, wl) i).2.2.2.2.2), .int (nI ru), .int (nI sm), .ref mk, .ref ml])), (pa, .inl (cI, 600, .inl (nA ((pmv me dp up UP CL mi (C, NX, GR, CO, FA, wl) i).1)))), (px, .inl (cI, 600, .inl (nA ((pmv me dp up UP CL mi (C, NX, GR, CO, FA, wl) i).2.1)))), (mg, .inl (cZ, 20, .inl (bA UP))), (mc, .inl (cZ, 20, .inl (bA CL))), (mo, .inl (cJ, 20, .inr (.inl ((pmv me dp up UP CL mi (C, NX, GR, CO, FA, wl) i).2.2.2.1)))), (mr, .inl (cJ, 20, .inr (.inl ((pmv me dp up UP CL mi (C, NX, GR, CO, FA, wl) i).2.2.1)))), (mf, .inl (cJ, 20, .inr (.inl ((pmv me dp up UP CL mi (C, NX, GR, CO, FA, wl) i).2.2.2.2.1))))]) (w1 := [(h0, .inr (6, [.int (nI 0), .int (nI (mi + i)), .int (nI me), .int (nI dp), .int (bI up), .int (nI dn), .ref px, .ref pa, .ref mh, .ref mg, .ref mc, .ref mo, .ref mr, .ref mf, .long wp, .long ((pmv me dp up UP CL mi (C, NX, GR, CO, FA, wl) i).2.2.2.2.2), .int (nI ru), .int (nI sm), .ref mk, .ref ml])), (pa, .inl (cI, 600, .inl (nA ((pmv me dp up UP CL mi (C, NX, GR, CO, FA, wl) i).1)))), (px, .inl (cI, 600, .inl (nA (NXf me ((pmv me dp up UP CL mi (C, NX, GR, CO, FA, wl) i).1) (clr 0 ((pmv me dp up UP CL mi (C, NX, GR, CO, FA, wl) i).2.1) 600) 600)))), (mg, .inl (cZ, 20, .inl (bA UP))), (mc, .inl (cZ, 20, .inl (bA CL))), (mo, .inl (cJ, 20, .inr (.inl (COm UP CL ((pmv me dp up UP CL mi (C, NX, GR, CO, FA, wl) i).2.2.2.1) (FAf me ((pmv me dp up UP CL mi (C, NX, GR, CO, FA, wl) i).1) (clr 0 ((pmv me dp up UP CL mi (C, NX, GR, CO, FA, wl) i).2.2.2.2.1) 20) 600) 20)))), (mr, .inl (cJ, 20, .inr (.inl (GRm ((pmv me dp up UP CL mi (C, NX, GR, CO, FA, wl) i).2.2.1) (FAf me ((pmv me dp up UP CL mi (C, NX, GR, CO, FA, wl) i).1) (clr 0 ((pmv me dp up UP CL mi (C, NX, GR, CO, FA, wl) i).2.2.2.2.1) 20) 600) 20)))), (mf, .inl (cJ, 20, .inr (.inl (FAf me ((pmv me dp up UP CL mi (C, NX, GR, CO, FA, wl) i).1) (clr 0 ((pmv me dp up UP CL mi (C, NX, GR, CO, FA, wl) i).2.2.2.2.1) 20) 600))))]) (ws2 := [(h0, .inr (6, [.int (nI 0), .int (nI (mi + i)), .int (nI me), .int (nI dp), .int (bI up), .int (nI dn), .ref px, .ref pa, .ref mh, .ref mg, .ref mc, .ref mo, .ref mr, .ref mf, .long wp, .long ((pmv me dp up UP CL mi (C, NX, GR, CO, FA, wl) i).2.2.2.2.2), .int (nI ru), .int (nI sm), .ref mk, .ref ml])), (pa, .inl (cI, 600, .inl (nA ((pmv me dp up UP CL mi (C, NX, GR, CO, FA, wl) i).1)))), (px, .inl (cI, 600, .inl (nA (NXf me ((pmv me dp up UP CL mi (C, NX, GR, CO, FA, wl) i).1) (clr 0 ((pmv me dp up UP CL mi (C, NX, GR, CO, FA, wl) i).2.1) 600) 600)))), (mg, .inl (cZ, 20, .inl (bA UP))), (mc, .inl (cZ, 20, .inl (bA CL))), (mo, .inl (cJ, 20, .inr (.inl (COm UP CL ((pmv me dp up UP CL mi (C, NX, GR, CO, FA, wl) i).2.2.2.1) (FAf me ((pmv me dp up UP CL mi (C, NX, GR, CO, FA, wl) i).1) (clr 0 ((pmv me dp up UP CL mi (C, NX, GR, CO, FA, wl) i).2.2.2.2.1) 20) 600) 20)))), (mr, .inl (cJ, 20, .inr (.inl (GRm ((pmv me dp up UP CL mi (C, NX, GR, CO, FA, wl) i).2.2.1) (FAf me ((pmv me dp up UP CL mi (C, NX, GR, CO, FA, wl) i).1) (clr 0 ((pmv me dp up UP CL mi (C, NX, GR, CO, FA, wl) i).2.2.2.2.1) 20) 600) 20)))), (mf, .inl (cJ, 20, .inr (.inl (FAf me ((pmv me dp up UP CL mi (C, NX, GR, CO, FA, wl) i).1) (clr 0 ((pmv me dp up UP CL mi (C, NX, GR, CO, FA, wl) i).2.2.2.2.1) 20) 600))))]) hP hD hS hA [0, 1, 2, 3, 4, 5, 6, 7] rfl rfl rfl (va_runV (As := []) (rest := []) ⟨hx, hb, hml, hown, hts⟩ (c_X6_fall l D cI cJ cZ h0 0 (mi + i) me dp up dn pa px mh mg mc mo mr mf mk ml wp ((pmv me dp up UP CL mi (C, NX, GR, CO, FA, wl) i).2.2.2.2.2) ru sm ((pmv me dp up UP CL mi (C, NX, GR, CO, FA, wl) i).1) ((pmv me dp up UP CL mi (C, NX, GR, CO, FA, wl) i).2.1) UP CL ((pmv me dp up UP CL mi (C, NX, GR, CO, FA, wl) i).2.2.2.1) ((pmv me dp up UP CL mi (C, NX, GR, CO, FA, wl) i).2.2.1) ((pmv me dp up UP CL mi (C, NX, GR, CO, FA, wl) i).2.2.2.2.1) (by omega) H.size) (cwV 0 hts gX6_pass_X6_fall rfl rfl rfl (by decide +kernel) ⟨Nat.le_of_ble_eq_true rfl, Nat.le_of_ble_eq_true rfl⟩) (pvV hT hP hD [0, 1, 2, 3, 4, 5, 6, 7] rfl rfl 0 rfl rfl) rfl rfl hl.1 rfl (lv_room (Nat.le_of_ble_eq_true rfl)) dX6_pass_50 ⟨Nat.zero_le _, Nat.zero_le _⟩) (fun H locs hP hD hS => ?_)
      refine lv_aload_n hx hb dX6_pass_53 rfl (lv_at hl 0 rfl) ?_
      refine lv_dup hx hb dX6_pass_54 rfl ?_
      refine va_get (D := D) (ci := 6) (v := .int (nI (mi + i))) (C := RX6) (T := TX6) (N := 20) hx hb hts hinX6 hown hK hP 0 rfl rfl 1 (by decide) hf95 (fun _ h9 => h9) rfl dX6_pass_55 ?_
      refine lv_iconst (v := nI 1) hx hb dX6_pass_58 (by decide) ?_
      refine lv_iadd hx hb dX6_pass_59 ?_
      refine tp_i (nI_add _ _) ?_
      refine va_put (D := D) (ci := 6) (v := .int (nI ((mi + i) + 1))) (ty := .int) (C := RX6) (T := TX6) (N := 20) hx hb hts hinX6 tyX6 tyX6_ok nmX6 hown hK hP hD hS 0 rfl rfl 1 (by decide) hf95 (fun _ h9 => h9) rfl (by decide +kernel) rfl rfl (Nat.le_of_ble_eq_true rfl) dX6_pass_60 (fun H locs hP hD hS => ?_)
      have hP : va_P D vwCl [(h0, .inr (6, [.int (nI 0), .int (nI ((mi + i) + 1)), .int (nI me), .int (nI dp), .int (bI up), .int (nI dn), .ref px, .ref pa, .ref mh, .ref mg, .ref mc, .ref mo, .ref mr, .ref mf, .long wp, .long ((pmv me dp up UP CL mi (C, NX, GR, CO, FA, wl) i).2.2.2.2.2), .int (nI ru), .int (nI sm), .ref mk, .ref ml])), (pa, .inl (cI, 600, .inl (nA ((pmv me dp up UP CL mi (C, NX, GR, CO, FA, wl) i).1)))), (px, .inl (cI, 600, .inl (nA (NXf me ((pmv me dp up UP CL mi (C, NX, GR, CO, FA, wl) i).1) (clr 0 ((pmv me dp up UP CL mi (C, NX, GR, CO, FA, wl) i).2.1) 600) 600)))), (mg, .inl (cZ, 20, .inl (bA UP))), (mc, .inl (cZ, 20, .inl (bA CL))), (mo, .inl (cJ, 20, .inr (.inl (COm UP CL ((pmv me dp up UP CL mi (C, NX, GR, CO, FA, wl) i).2.2.2.1) (FAf me ((pmv me dp up UP CL mi (C, NX, GR, CO, FA, wl) i).1) (clr 0 ((pmv me dp up UP CL mi (C, NX, GR, CO, FA, wl) i).2.2.2.2.1) 20) 600) 20)))), (mr, .inl (cJ, 20, .inr (.inl (GRm ((pmv me dp up UP CL mi (C, NX, GR, CO, FA, wl) i).2.2.1) (FAf me ((pmv me dp up UP CL mi (C, NX, GR, CO, FA, wl) i).1) (clr 0 ((pmv me dp up UP CL mi (C, NX, GR, CO, FA, wl) i).2.2.2.2.1) 20) 600) 20)))), (mf, .inl (cJ, 20, .inr (.inl (FAf me ((pmv me dp up UP CL mi (C, NX, GR, CO, FA, wl) i).1) (clr 0 ((pmv me dp up UP CL mi (C, NX, GR, CO, FA, wl) i).2.2.2.2.1) 20) 600))))] H := hP
      have hD : va_D A [(h0, .inr (6, [.int (nI 0), .int (nI ((mi + i) + 1)), .int (nI me), .int (nI dp), .int (bI up), .int (nI dn), .ref px, .ref pa, .ref mh, .ref mg, .ref mc, .ref mo, .ref mr, .ref mf, .long wp, .long ((pmv me dp up UP CL mi (C, NX, GR, CO, FA, wl) i).2.2.2.2.2), .int (nI ru), .int (nI sm), .ref mk, .ref ml])), (pa, .inl (cI, 600, .inl (nA ((pmv me dp up UP CL mi (C, NX, GR, CO, FA, wl) i).1)))), (px, .inl (cI, 600, .inl (nA (NXf me ((pmv me dp up UP CL mi (C, NX, GR, CO, FA, wl) i).1) (clr 0 ((pmv me dp up UP CL mi (C, NX, GR, CO, FA, wl) i).2.1) 600) 600)))), (mg, .inl (cZ, 20, .inl (bA UP))), (mc, .inl (cZ, 20, .inl (bA CL))), (mo, .inl (cJ, 20, .inr (.inl (COm UP CL ((pmv me dp up UP CL mi (C, NX, GR, CO, FA, wl) i).2.2.2.1) (FAf me ((pmv me dp up UP CL mi (C, NX, GR, CO, FA, wl) i).1) (clr 0 ((pmv me dp up UP CL mi (C, NX, GR, CO, FA, wl) i).2.2.2.2.1) 20) 600) 20)))), (mr, .inl (cJ, 20, .inr (.inl (GRm ((pmv me dp up UP CL mi (C, NX, GR, CO, FA, wl) i).2.2.1) (FAf me ((pmv me dp up UP CL mi (C, NX, GR, CO, FA, wl) i).1) (clr 0 ((pmv me dp up UP CL mi (C, NX, GR, CO, FA, wl) i).2.2.2.2.1) 20) 600) 20)))), (mf, .inl (cJ, 20, .inr (.inl (FAf me ((pmv me dp up UP CL mi (C, NX, GR, CO, FA, wl) i).1) (clr 0 ((pmv me dp up UP CL mi (C, NX, GR, CO, FA, wl) i).2.2.2.2.1) 20) 600))))] := hD
      refine lv_aload_n hx hb dX6_pass_63 rfl (lv_at hl 0 rfl) ?_
      refine va_get (D := D) (ci := 6) (v := .int (nI dp)) (C := RX6) (T := TX6) (N := 20) hx hb hts hinX6 hown hK hP 0 rfl rfl 3 (by decide) hf73 (fun _ h9 => h9) rfl dX6_pass_64 ?_
      refine c0_le (tgt := 86) hx hb dX6_pass_67 (by decide) (nT (by omega)) (fun c_67 => ?_) (fun c_67 => ?_)
      · have hpm : pmv me dp up UP CL mi (C, NX, GR, CO, FA, wl) (i + 1) = fl9 me UP CL (pmv me dp up UP CL mi (C, NX, GR, CO, FA, wl) i) := if_neg (fun z => by omega)
        refine lv_iinc (v := nI (i + 1)) (lv' := [(3, .int (nI (i + 1))), (0, .ref h0), (1, .int (nI mn))]) hx hb dX6_pass_86 hl (k := 2) rfl (n_inc i) (by decide) rfl (fun ls hl => ?_)
        refine lv_goto (tgt := 44) hx hb dX6_pass_89 (by decide) ?_
        have hP : va_P D vwCl [(h0, .inr (6, [.int (nI 0), .int (nI ((mi + i) + 1)), .int (nI me), .int (nI dp), .int (bI up), .int (nI dn), .ref px, .ref pa, .ref mh, .ref mg, .ref mc, .ref mo, .ref mr, .ref mf, .long wp, .long ((pmv me dp up UP CL mi (C, NX, GR, CO, FA, wl) i).2.2.2.2.2), .int (nI ru), .int (nI sm), .ref mk, .ref ml])), (px, .inl (cI, 600, .inl (nA (NXf me ((pmv me dp up UP CL mi (C, NX, GR, CO, FA, wl) i).1) (clr 0 ((pmv me dp up UP CL mi (C, NX, GR, CO, FA, wl) i).2.1) 600) 600)))), (pa, .inl (cI, 600, .inl (nA ((pmv me dp up UP CL mi (C, NX, GR, CO, FA, wl) i).1)))), (mg, .inl (cZ, 20, .inl (bA UP))), (mc, .inl (cZ, 20, .inl (bA CL))), (mo, .inl (cJ, 20, .inr (.inl (COm UP CL ((pmv me dp up UP CL mi (C, NX, GR, CO, FA, wl) i).2.2.2.1) (FAf me ((pmv me dp up UP CL mi (C, NX, GR, CO, FA, wl) i).1) (clr 0 ((pmv me dp up UP CL mi (C, NX, GR, CO, FA, wl) i).2.2.2.2.1) 20) 600) 20)))), (mr, .inl (cJ, 20, .inr (.inl (GRm ((pmv me dp up UP CL mi (C, NX, GR, CO, FA, wl) i).2.2.1) (FAf me ((pmv me dp up UP CL mi (C, NX, GR, CO, FA, wl) i).1) (clr 0 ((pmv me dp up UP CL mi (C, NX, GR, CO, FA, wl) i).2.2.2.2.1) 20) 600) 20)))), (mf, .inl (cJ, 20, .inr (.inl (FAf me ((pmv me dp up UP CL mi (C, NX, GR, CO, FA, wl) i).1) (clr 0 ((pmv me dp up UP CL mi (C, NX, GR, CO, FA, wl) i).2.2.2.2.1) 20) 600))))] H := hP.sub [0, 2, 1, 3, 4, 5, 6, 7] rfl
        have hD : va_D A [(h0, .inr (6, [.int (nI 0), .int (nI ((mi + i) + 1)), .int (nI me), .int (nI dp), .int (bI up), .int (nI dn), .ref px, .ref pa, .ref mh, .ref mg, .ref mc, .ref mo, .ref mr, .ref mf, .long wp, .long ((pmv me dp up UP CL mi (C, NX, GR, CO, FA, wl) i).2.2.2.2.2), .int (nI ru), .int (nI sm), .ref mk, .ref ml])), (px, .inl (cI, 600, .inl (nA (NXf me ((pmv me dp up UP CL mi (C, NX, GR, CO, FA, wl) i).1) (clr 0 ((pmv me dp up UP CL mi (C, NX, GR, CO, FA, wl) i).2.1) 600) 600)))), (pa, .inl (cI, 600, .inl (nA ((pmv me dp up UP CL mi (C, NX, GR, CO, FA, wl) i).1)))), (mg, .inl (cZ, 20, .inl (bA UP))), (mc, .inl (cZ, 20, .inl (bA CL))), (mo, .inl (cJ, 20, .inr (.inl (COm UP CL ((pmv me dp up UP CL mi (C, NX, GR, CO, FA, wl) i).2.2.2.1) (FAf me ((pmv me dp up UP CL mi (C, NX, GR, CO, FA, wl) i).1) (clr 0 ((pmv me dp up UP CL mi (C, NX, GR, CO, FA, wl) i).2.2.2.2.1) 20) 600) 20)))), (mr, .inl (cJ, 20, .inr (.inl (GRm ((pmv me dp up UP CL mi (C, NX, GR, CO, FA, wl) i).2.2.1) (FAf me ((pmv me dp up UP CL mi (C, NX, GR, CO, FA, wl) i).1) (clr 0 ((pmv me dp up UP CL mi (C, NX, GR, CO, FA, wl) i).2.2.2.2.1) 20) 600) 20)))), (mf, .inl (cJ, 20, .inr (.inl (FAf me ((pmv me dp up UP CL mi (C, NX, GR, CO, FA, wl) i).1) (clr 0 ((pmv me dp up UP CL mi (C, NX, GR, CO, FA, wl) i).2.2.2.2.1) 20) 600))))] := hD.sub [0, 2, 1, 3, 4, 5, 6, 7] (by decide) rfl
        have hwe : ([(h0, .inr (6, [.int (nI 0), .int (nI (mi + (i + 1))), .int (nI me), .int (nI dp), .int (bI up), .int (nI dn), .ref px, .ref pa, .ref mh, .ref mg, .ref mc, .ref mo, .ref mr, .ref mf, .long wp, .long ((pmv me dp up UP CL mi (C, NX, GR, CO, FA, wl) (i + 1)).2.2.2.2.2), .int (nI ru), .int (nI sm), .ref mk, .ref ml])), (px, .inl (cI, 600, .inl (nA ((pmv me dp up UP CL mi (C, NX, GR, CO, FA, wl) (i + 1)).1)))), (pa, .inl (cI, 600, .inl (nA ((pmv me dp up UP CL mi (C, NX, GR, CO, FA, wl) (i + 1)).2.1)))), (mg, .inl (cZ, 20, .inl (bA UP))), (mc, .inl (cZ, 20, .inl (bA CL))), (mo, .inl (cJ, 20, .inr (.inl ((pmv me dp up UP CL mi (C, NX, GR, CO, FA, wl) (i + 1)).2.2.2.1)))), (mr, .inl (cJ, 20, .inr (.inl ((pmv me dp up UP CL mi (C, NX, GR, CO, FA, wl) (i + 1)).2.2.1)))), (mf, .inl (cJ, 20, .inr (.inl ((pmv me dp up UP CL mi (C, NX, GR, CO, FA, wl) (i + 1)).2.2.2.2.1))))] : va_W) = [(h0, .inr (6, [.int (nI 0), .int (nI ((mi + i) + 1)), .int (nI me), .int (nI dp), .int (bI up), .int (nI dn), .ref px, .ref pa, .ref mh, .ref mg, .ref mc, .ref mo, .ref mr, .ref mf, .long wp, .long ((pmv me dp up UP CL mi (C, NX, GR, CO, FA, wl) i).2.2.2.2.2), .int (nI ru), .int (nI sm), .ref mk, .ref ml])), (px, .inl (cI, 600, .inl (nA (NXf me ((pmv me dp up UP CL mi (C, NX, GR, CO, FA, wl) i).1) (clr 0 ((pmv me dp up UP CL mi (C, NX, GR, CO, FA, wl) i).2.1) 600) 600)))), (pa, .inl (cI, 600, .inl (nA ((pmv me dp up UP CL mi (C, NX, GR, CO, FA, wl) i).1)))), (mg, .inl (cZ, 20, .inl (bA UP))), (mc, .inl (cZ, 20, .inl (bA CL))), (mo, .inl (cJ, 20, .inr (.inl (COm UP CL ((pmv me dp up UP CL mi (C, NX, GR, CO, FA, wl) i).2.2.2.1) (FAf me ((pmv me dp up UP CL mi (C, NX, GR, CO, FA, wl) i).1) (clr 0 ((pmv me dp up UP CL mi (C, NX, GR, CO, FA, wl) i).2.2.2.2.1) 20) 600) 20)))), (mr, .inl (cJ, 20, .inr (.inl (GRm ((pmv me dp up UP CL mi (C, NX, GR, CO, FA, wl) i).2.2.1) (FAf me ((pmv me dp up UP CL mi (C, NX, GR, CO, FA, wl) i).1) (clr 0 ((pmv me dp up UP CL mi (C, NX, GR, CO, FA, wl) i).2.2.2.2.1) 20) 600) 20)))), (mf, .inl (cJ, 20, .inr (.inl (FAf me ((pmv me dp up UP CL mi (C, NX, GR, CO, FA, wl) i).1) (clr 0 ((pmv me dp up UP CL mi (C, NX, GR, CO, FA, wl) i).2.2.2.2.1) 20) 600))))] := (by rw [hpm]; first | done | rfl)
        exact ih (i + 1) (by omega) px pa H locs (by rw [hwe]; exact hP) (by rw [hwe]; exact hD) hS ls (lv_sub hl [1, 2, 0] rfl)
      · refine lv_aload_n hx hb dX6_pass_70 rfl (lv_at hl 0 rfl) ?_
        refine va_get (D := D) (ci := 6) (v := .int (nI ((mi + i) + 1))) (C := RX6) (T := TX6) (N := 20) hx hb hts hinX6 hown hK hP 0 rfl rfl 1 (by decide) hf95 (fun _ h9 => h9) rfl dX6_pass_71 ?_
        refine lv_aload_n hx hb dX6_pass_74 rfl (lv_at hl 0 rfl) ?_
        refine va_get (D := D) (ci := 6) (v := .int (nI dp)) (C := RX6) (T := TX6) (N := 20) hx hb hts hinX6 hown hK hP 0 rfl rfl 3 (by decide) hf73 (fun _ h9 => h9) rfl dX6_pass_75 ?_
        refine lv_irem hx hb dX6_pass_78 (fun z => by have z2 := congrArg Int32.toInt z; rw [nT (by omega), Int32.toInt_zero] at z2; omega) ?_
        refine tp_i (pk_rem (by omega) (by omega) (by omega)) ?_
        have hmd : (mi + i + 1) % dp ≤ mi + i + 1 := Nat.mod_le _ _
        refine c0_ne (tgt := 86) hx hb dX6_pass_79 (by decide) (nT (by omega)) (fun c_79 => ?_) (fun c_79 => ?_)
        · have hpm : pmv me dp up UP CL mi (C, NX, GR, CO, FA, wl) (i + 1) = fl9 me UP CL (pmv me dp up UP CL mi (C, NX, GR, CO, FA, wl) i) := if_neg (fun z => by omega)
          refine lv_iinc (v := nI (i + 1)) (lv' := [(3, .int (nI (i + 1))), (0, .ref h0), (1, .int (nI mn))]) hx hb dX6_pass_86 hl (k := 2) rfl (n_inc i) (by decide) rfl (fun ls hl => ?_)
          refine lv_goto (tgt := 44) hx hb dX6_pass_89 (by decide) ?_
          have hP : va_P D vwCl [(h0, .inr (6, [.int (nI 0), .int (nI ((mi + i) + 1)), .int (nI me), .int (nI dp), .int (bI up), .int (nI dn), .ref px, .ref pa, .ref mh, .ref mg, .ref mc, .ref mo, .ref mr, .ref mf, .long wp, .long ((pmv me dp up UP CL mi (C, NX, GR, CO, FA, wl) i).2.2.2.2.2), .int (nI ru), .int (nI sm), .ref mk, .ref ml])), (px, .inl (cI, 600, .inl (nA (NXf me ((pmv me dp up UP CL mi (C, NX, GR, CO, FA, wl) i).1) (clr 0 ((pmv me dp up UP CL mi (C, NX, GR, CO, FA, wl) i).2.1) 600) 600)))), (pa, .inl (cI, 600, .inl (nA ((pmv me dp up UP CL mi (C, NX, GR, CO, FA, wl) i).1)))), (mg, .inl (cZ, 20, .inl (bA UP))), (mc, .inl (cZ, 20, .inl (bA CL))), (mo, .inl (cJ, 20, .inr (.inl (COm UP CL ((pmv me dp up UP CL mi (C, NX, GR, CO, FA, wl) i).2.2.2.1) (FAf me ((pmv me dp up UP CL mi (C, NX, GR, CO, FA, wl) i).1) (clr 0 ((pmv me dp up UP CL mi (C, NX, GR, CO, FA, wl) i).2.2.2.2.1) 20) 600) 20)))), (mr, .inl (cJ, 20, .inr (.inl (GRm ((pmv me dp up UP CL mi (C, NX, GR, CO, FA, wl) i).2.2.1) (FAf me ((pmv me dp up UP CL mi (C, NX, GR, CO, FA, wl) i).1) (clr 0 ((pmv me dp up UP CL mi (C, NX, GR, CO, FA, wl) i).2.2.2.2.1) 20) 600) 20)))), (mf, .inl (cJ, 20, .inr (.inl (FAf me ((pmv me dp up UP CL mi (C, NX, GR, CO, FA, wl) i).1) (clr 0 ((pmv me dp up UP CL mi (C, NX, GR, CO, FA, wl) i).2.2.2.2.1) 20) 600))))] H := hP.sub [0, 2, 1, 3, 4, 5, 6, 7] rfl
          have hD : va_D A [(h0, .inr (6, [.int (nI 0), .int (nI ((mi + i) + 1)), .int (nI me), .int (nI dp), .int (bI up), .int (nI dn), .ref px, .ref pa, .ref mh, .ref mg, .ref mc, .ref mo, .ref mr, .ref mf, .long wp, .long ((pmv me dp up UP CL mi (C, NX, GR, CO, FA, wl) i).2.2.2.2.2), .int (nI ru), .int (nI sm), .ref mk, .ref ml])), (px, .inl (cI, 600, .inl (nA (NXf me ((pmv me dp up UP CL mi (C, NX, GR, CO, FA, wl) i).1) (clr 0 ((pmv me dp up UP CL mi (C, NX, GR, CO, FA, wl) i).2.1) 600) 600)))), (pa, .inl (cI, 600, .inl (nA ((pmv me dp up UP CL mi (C, NX, GR, CO, FA, wl) i).1)))), (mg, .inl (cZ, 20, .inl (bA UP))), (mc, .inl (cZ, 20, .inl (bA CL))), (mo, .inl (cJ, 20, .inr (.inl (COm UP CL ((pmv me dp up UP CL mi (C, NX, GR, CO, FA, wl) i).2.2.2.1) (FAf me ((pmv me dp up UP CL mi (C, NX, GR, CO, FA, wl) i).1) (clr 0 ((pmv me dp up UP CL mi (C, NX, GR, CO, FA, wl) i).2.2.2.2.1) 20) 600) 20)))), (mr, .inl (cJ, 20, .inr (.inl (GRm ((pmv me dp up UP CL mi (C, NX, GR, CO, FA, wl) i).2.2.1) (FAf me ((pmv me dp up UP CL mi (C, NX, GR, CO, FA, wl) i).1) (clr 0 ((pmv me dp up UP CL mi (C, NX, GR, CO, FA, wl) i).2.2.2.2.1) 20) 600) 20)))), (mf, .inl (cJ, 20, .inr (.inl (FAf me ((pmv me dp up UP CL mi (C, NX, GR, CO, FA, wl) i).1) (clr 0 ((pmv me dp up UP CL mi (C, NX, GR, CO, FA, wl) i).2.2.2.2.1) 20) 600))))] := hD.sub [0, 2, 1, 3, 4, 5, 6, 7] (by decide) rfl
          have hwe : ([(h0, .inr (6, [.int (nI 0), .int (nI (mi + (i + 1))), .int (nI me), .int (nI dp), .int (bI up), .int (nI dn), .ref px, .ref pa, .ref mh, .ref mg, .ref mc, .ref mo, .ref mr, .ref mf, .long wp, .long ((pmv me dp up UP CL mi (C, NX, GR, CO, FA, wl) (i + 1)).2.2.2.2.2), .int (nI ru), .int (nI sm), .ref mk, .ref ml])), (px, .inl (cI, 600, .inl (nA ((pmv me dp up UP CL mi (C, NX, GR, CO, FA, wl) (i + 1)).1)))), (pa, .inl (cI, 600, .inl (nA ((pmv me dp up UP CL mi (C, NX, GR, CO, FA, wl) (i + 1)).2.1)))), (mg, .inl (cZ, 20, .inl (bA UP))), (mc, .inl (cZ, 20, .inl (bA CL))), (mo, .inl (cJ, 20, .inr (.inl ((pmv me dp up UP CL mi (C, NX, GR, CO, FA, wl) (i + 1)).2.2.2.1)))), (mr, .inl (cJ, 20, .inr (.inl ((pmv me dp up UP CL mi (C, NX, GR, CO, FA, wl) (i + 1)).2.2.1)))), (mf, .inl (cJ, 20, .inr (.inl ((pmv me dp up UP CL mi (C, NX, GR, CO, FA, wl) (i + 1)).2.2.2.2.1))))] : va_W) = [(h0, .inr (6, [.int (nI 0), .int (nI ((mi + i) + 1)), .int (nI me), .int (nI dp), .int (bI up), .int (nI dn), .ref px, .ref pa, .ref mh, .ref mg, .ref mc, .ref mo, .ref mr, .ref mf, .long wp, .long ((pmv me dp up UP CL mi (C, NX, GR, CO, FA, wl) i).2.2.2.2.2), .int (nI ru), .int (nI sm), .ref mk, .ref ml])), (px, .inl (cI, 600, .inl (nA (NXf me ((pmv me dp up UP CL mi (C, NX, GR, CO, FA, wl) i).1) (clr 0 ((pmv me dp up UP CL mi (C, NX, GR, CO, FA, wl) i).2.1) 600) 600)))), (pa, .inl (cI, 600, .inl (nA ((pmv me dp up UP CL mi (C, NX, GR, CO, FA, wl) i).1)))), (mg, .inl (cZ, 20, .inl (bA UP))), (mc, .inl (cZ, 20, .inl (bA CL))), (mo, .inl (cJ, 20, .inr (.inl (COm UP CL ((pmv me dp up UP CL mi (C, NX, GR, CO, FA, wl) i).2.2.2.1) (FAf me ((pmv me dp up UP CL mi (C, NX, GR, CO, FA, wl) i).1) (clr 0 ((pmv me dp up UP CL mi (C, NX, GR, CO, FA, wl) i).2.2.2.2.1) 20) 600) 20)))), (mr, .inl (cJ, 20, .inr (.inl (GRm ((pmv me dp up UP CL mi (C, NX, GR, CO, FA, wl) i).2.2.1) (FAf me ((pmv me dp up UP CL mi (C, NX, GR, CO, FA, wl) i).1) (clr 0 ((pmv me dp up UP CL mi (C, NX, GR, CO, FA, wl) i).2.2.2.2.1) 20) 600) 20)))), (mf, .inl (cJ, 20, .inr (.inl (FAf me ((pmv me dp up UP CL mi (C, NX, GR, CO, FA, wl) i).1) (clr 0 ((pmv me dp up UP CL mi (C, NX, GR, CO, FA, wl) i).2.2.2.2.1) 20) 600))))] := (by rw [hpm]; first | done | rfl)
          exact ih (i + 1) (by omega) px pa H locs (by rw [hwe]; exact hP) (by rw [hwe]; exact hD) hS ls (lv_sub hl [1, 2, 0] rfl)
        · have hpm : pmv me dp up UP CL mi (C, NX, GR, CO, FA, wl) (i + 1) = bl9 up (fl9 me UP CL (pmv me dp up UP CL mi (C, NX, GR, CO, FA, wl) i)) := if_pos ⟨by omega, by omega⟩
          refine lv_aload_n hx hb dX6_pass_82 rfl (lv_at hl 0 rfl) ?_
          refine cr_v (wc := [(h0, .inr (6, [.int (nI 0), .int (nI ((mi + i) + 1)), .int (nI me), .int (nI dp), .int (bI up), .int (nI dn), .ref px, .ref pa, .ref mh, .ref mg, .ref mc, .ref mo, .ref mr, .ref mf, .long wp, .long ((pmv me dp up UP CL mi (C, NX, GR, CO, FA, wl) i).2.2.2.2.2), .int (nI ru), .int (nI sm), .ref mk, .ref ml])), (px, .inl (cI, 600, .inl (nA (NXf me ((pmv me dp up UP CL mi (C, NX, GR, CO, FA, wl) i).1) (clr 0 ((pmv me dp up UP CL mi (C, NX, GR, CO, FA, wl) i).2.1) 600) 600)))), (pa, .inl (cI, 600, .inl (nA ((pmv me dp up UP CL mi (C, NX, GR, CO, FA, wl) i).1))))]) (w1 := [(h0, .inr (6, [.int (nI 0), .int (nI ((mi + i) + 1)), .int (nI me), .int (nI dp), .int (bI up), .int (nI dn), .ref pa, .ref px, .ref mh, .ref mg, .ref mc, .ref mo, .ref mr, .ref mf, .long wp, .long (LFb up (NXf me ((pmv me dp up UP CL mi (C, NX, GR, CO, FA, wl) i).1) (clr 0 ((pmv me dp up UP CL mi (C, NX, GR, CO, FA, wl) i).2.1) 600) 600) ((pmv me dp up UP CL mi (C, NX, GR, CO, FA, wl) i).2.2.2.2.2) 600), .int (nI ru), .int (nI sm), .ref mk, .ref ml])), (px, .inl (cI, 600, .inl (nA (NXf me ((pmv me dp up UP CL mi (C, NX, GR, CO, FA, wl) i).1) (clr 0 ((pmv me dp up UP CL mi (C, NX, GR, CO, FA, wl) i).2.1) 600) 600)))), (pa, .inl (cI, 600, .inl (nA (NXb up (NXf me ((pmv me dp up UP CL mi (C, NX, GR, CO, FA, wl) i).1) (clr 0 ((pmv me dp up UP CL mi (C, NX, GR, CO, FA, wl) i).2.1) 600) 600) (clr 0 ((pmv me dp up UP CL mi (C, NX, GR, CO, FA, wl) i).1) 600) 600))))]) (ws2 := [(h0, .inr (6, [.int (nI 0), .int (nI ((mi + i) + 1)), .int (nI me), .int (nI dp), .int (bI up), .int (nI dn), .ref pa, .ref px, .ref mh, .ref mg, .ref mc, .ref mo, .ref mr, .ref mf, .long wp, .long (LFb up (NXf me ((pmv me dp up UP CL mi (C, NX, GR, CO, FA, wl) i).1) (clr 0 ((pmv me dp up UP CL mi (C, NX, GR, CO, FA, wl) i).2.1) 600) 600) ((pmv me dp up UP CL mi (C, NX, GR, CO, FA, wl) i).2.2.2.2.2) 600), .int (nI ru), .int (nI sm), .ref mk, .ref ml])), (pa, .inl (cI, 600, .inl (nA (NXb up (NXf me ((pmv me dp up UP CL mi (C, NX, GR, CO, FA, wl) i).1) (clr 0 ((pmv me dp up UP CL mi (C, NX, GR, CO, FA, wl) i).2.1) 600) 600) (clr 0 ((pmv me dp up UP CL mi (C, NX, GR, CO, FA, wl) i).1) 600) 600)))), (px, .inl (cI, 600, .inl (nA (NXf me ((pmv me dp up UP CL mi (C, NX, GR, CO, FA, wl) i).1) (clr 0 ((pmv me dp up UP CL mi (C, NX, GR, CO, FA, wl) i).2.1) 600) 600)))), (mg, .inl (cZ, 20, .inl (bA UP))), (mc, .inl (cZ, 20, .inl (bA CL))), (mo, .inl (cJ, 20, .inr (.inl (COm UP CL ((pmv me dp up UP CL mi (C, NX, GR, CO, FA, wl) i).2.2.2.1) (FAf me ((pmv me dp up UP CL mi (C, NX, GR, CO, FA, wl) i).1) (clr 0 ((pmv me dp up UP CL mi (C, NX, GR, CO, FA, wl) i).2.2.2.2.1) 20) 600) 20)))), (mr, .inl (cJ, 20, .inr (.inl (GRm ((pmv me dp up UP CL mi (C, NX, GR, CO, FA, wl) i).2.2.1) (FAf me ((pmv me dp up UP CL mi (C, NX, GR, CO, FA, wl) i).1) (clr 0 ((pmv me dp up UP CL mi (C, NX, GR, CO, FA, wl) i).2.2.2.2.1) 20) 600) 20)))), (mf, .inl (cJ, 20, .inr (.inl (FAf me ((pmv me dp up UP CL mi (C, NX, GR, CO, FA, wl) i).1) (clr 0 ((pmv me dp up UP CL mi (C, NX, GR, CO, FA, wl) i).2.2.2.2.1) 20) 600))))]) hP hD hS hA [0, 2, 1] rfl rfl rfl (va_runV (As := []) (rest := []) ⟨hx, hb, hml, hown, hts⟩ (c_X6_blow l D cI cJ cZ h0 0 ((mi + i) + 1) me dp up dn px pa mh mg mc mo mr mf mk ml wp ((pmv me dp up UP CL mi (C, NX, GR, CO, FA, wl) i).2.2.2.2.2) ru sm (NXf me ((pmv me dp up UP CL mi (C, NX, GR, CO, FA, wl) i).1) (clr 0 ((pmv me dp up UP CL mi (C, NX, GR, CO, FA, wl) i).2.1) 600) 600) ((pmv me dp up UP CL mi (C, NX, GR, CO, FA, wl) i).1) H.size) (cwV 0 hts gX6_pass_X6_blow rfl rfl rfl (by decide +kernel) ⟨Nat.le_of_ble_eq_true rfl, Nat.le_of_ble_eq_true rfl⟩) (pvV hT hP hD [0, 2, 1] rfl rfl 0 rfl rfl) rfl rfl hl.1 rfl (lv_room (Nat.le_of_ble_eq_true rfl)) dX6_pass_83 ⟨Nat.zero_le _, Nat.zero_le _⟩) (fun H locs hP hD hS => ?_)
          refine lv_iinc (v := nI (i + 1)) (lv' := [(3, .int (nI (i + 1))), (0, .ref h0), (1, .int (nI mn))]) hx hb dX6_pass_86 hl (k := 2) rfl (n_inc i) (by decide) rfl (fun ls hl => ?_)
          refine lv_goto (tgt := 44) hx hb dX6_pass_89 (by decide) ?_
          have hwe : ([(h0, .inr (6, [.int (nI 0), .int (nI (mi + (i + 1))), .int (nI me), .int (nI dp), .int (bI up), .int (nI dn), .ref pa, .ref px, .ref mh, .ref mg, .ref mc, .ref mo, .ref mr, .ref mf, .long wp, .long ((pmv me dp up UP CL mi (C, NX, GR, CO, FA, wl) (i + 1)).2.2.2.2.2), .int (nI ru), .int (nI sm), .ref mk, .ref ml])), (pa, .inl (cI, 600, .inl (nA ((pmv me dp up UP CL mi (C, NX, GR, CO, FA, wl) (i + 1)).1)))), (px, .inl (cI, 600, .inl (nA ((pmv me dp up UP CL mi (C, NX, GR, CO, FA, wl) (i + 1)).2.1)))), (mg, .inl (cZ, 20, .inl (bA UP))), (mc, .inl (cZ, 20, .inl (bA CL))), (mo, .inl (cJ, 20, .inr (.inl ((pmv me dp up UP CL mi (C, NX, GR, CO, FA, wl) (i + 1)).2.2.2.1)))), (mr, .inl (cJ, 20, .inr (.inl ((pmv me dp up UP CL mi (C, NX, GR, CO, FA, wl) (i + 1)).2.2.1)))), (mf, .inl (cJ, 20, .inr (.inl ((pmv me dp up UP CL mi (C, NX, GR, CO, FA, wl) (i + 1)).2.2.2.2.1))))] : va_W) = [(h0, .inr (6, [.int (nI 0), .int (nI ((mi + i) + 1)), .int (nI me), .int (nI dp), .int (bI up), .int (nI dn), .ref pa, .ref px, .ref mh, .ref mg, .ref mc, .ref mo, .ref mr, .ref mf, .long wp, .long (LFb up (NXf me ((pmv me dp up UP CL mi (C, NX, GR, CO, FA, wl) i).1) (clr 0 ((pmv me dp up UP CL mi (C, NX, GR, CO, FA, wl) i).2.1) 600) 600) ((pmv me dp up UP CL mi (C, NX, GR, CO, FA, wl) i).2.2.2.2.2) 600), .int (nI ru), .int (nI sm), .ref mk, .ref ml])), (pa, .inl (cI, 600, .inl (nA (NXb up (NXf me ((pmv me dp up UP CL mi (C, NX, GR, CO, FA, wl) i).1) (clr 0 ((pmv me dp up UP CL mi (C, NX, GR, CO, FA, wl) i).2.1) 600) 600) (clr 0 ((pmv me dp up UP CL mi (C, NX, GR, CO, FA, wl) i).1) 600) 600)))), (px, .inl (cI, 600, .inl (nA (NXf me ((pmv me dp up UP CL mi (C, NX, GR, CO, FA, wl) i).1) (clr 0 ((pmv me dp up UP CL mi (C, NX, GR, CO, FA, wl) i).2.1) 600) 600)))), (mg, .inl (cZ, 20, .inl (bA UP))), (mc, .inl (cZ, 20, .inl (bA CL))), (mo, .inl (cJ, 20, .inr (.inl (COm UP CL ((pmv me dp up UP CL mi (C, NX, GR, CO, FA, wl) i).2.2.2.1) (FAf me ((pmv me dp up UP CL mi (C, NX, GR, CO, FA, wl) i).1) (clr 0 ((pmv me dp up UP CL mi (C, NX, GR, CO, FA, wl) i).2.2.2.2.1) 20) 600) 20)))), (mr, .inl (cJ, 20, .inr (.inl (GRm ((pmv me dp up UP CL mi (C, NX, GR, CO, FA, wl) i).2.2.1) (FAf me ((pmv me dp up UP CL mi (C, NX, GR, CO, FA, wl) i).1) (clr 0 ((pmv me dp up UP CL mi (C, NX, GR, CO, FA, wl) i).2.2.2.2.1) 20) 600) 20)))), (mf, .inl (cJ, 20, .inr (.inl (FAf me ((pmv me dp up UP CL mi (C, NX, GR, CO, FA, wl) i).1) (clr 0 ((pmv me dp up UP CL mi (C, NX, GR, CO, FA, wl) i).2.2.2.2.1) 20) 600))))] := (by rw [hpm]; first | done | rfl)
          exact ih (i + 1) (by omega) pa px H locs (by rw [hwe]; exact hP) (by rw [hwe]; exact hD) hS ls (lv_sub hl [1, 2, 0] rfl)
  have hwe : ([(h0, .inr (6, [.int (nI 0), .int (nI (mi + 0)), .int (nI me), .int (nI dp), .int (bI up), .int (nI dn), .ref ma, .ref mx, .ref mh, .ref mg, .ref mc, .ref mo, .ref mr, .ref mf, .long wp, .long ((pmv me dp up UP CL mi (C, NX, GR, CO, FA, wl) 0).2.2.2.2.2), .int (nI ru), .int (nI sm), .ref mk, .ref ml])), (ma, .inl (cI, 600, .inl (nA ((pmv me dp up UP CL mi (C, NX, GR, CO, FA, wl) 0).1)))), (mx, .inl (cI, 600, .inl (nA ((pmv me dp up UP CL mi (C, NX, GR, CO, FA, wl) 0).2.1)))), (mg, .inl (cZ, 20, .inl (bA UP))), (mc, .inl (cZ, 20, .inl (bA CL))), (mo, .inl (cJ, 20, .inr (.inl ((pmv me dp up UP CL mi (C, NX, GR, CO, FA, wl) 0).2.2.2.1)))), (mr, .inl (cJ, 20, .inr (.inl ((pmv me dp up UP CL mi (C, NX, GR, CO, FA, wl) 0).2.2.1)))), (mf, .inl (cJ, 20, .inr (.inl ((pmv me dp up UP CL mi (C, NX, GR, CO, FA, wl) 0).2.2.2.2.1))))] : va_W) = [(h0, .inr (6, [.int (nI 0), .int (nI mi), .int (nI me), .int (nI dp), .int (bI up), .int (nI dn), .ref ma, .ref mx, .ref mh, .ref mg, .ref mc, .ref mo, .ref mr, .ref mf, .long wp, .long wl, .int (nI ru), .int (nI sm), .ref mk, .ref ml])), (ma, .inl (cI, 600, .inl (nA C))), (mx, .inl (cI, 600, .inl (nA NX))), (mg, .inl (cZ, 20, .inl (bA UP))), (mc, .inl (cZ, 20, .inl (bA CL))), (mo, .inl (cJ, 20, .inr (.inl CO))), (mr, .inl (cJ, 20, .inr (.inl GR))), (mf, .inl (cJ, 20, .inr (.inl FA)))] := rfl
  exact lp44 mn 0 (by omega) ma mx H locs (by rw [hwe]; exact hP) (by rw [hwe]; exact hD) hS ls (lv_sub hl [2, 3, 0] rfl)
set_option maxHeartbeats 4000000 in
set_option maxRecDepth 100000 in
theorem c_X6_drops_b0 (l : Launch) (D : va_G) (cI cJ cZ : ClassId) (h0 : Nat) (thr : Nat) (mi : Nat) (me : Nat) (dp : Nat) (up : Bool) (dn : Nat) (ma : Nat) (mx : Nat) (mh : Nat) (mg : Nat) (mc : Nat) (mo : Nat) (mr : Nat) (mf : Nat) (mk : Nat) (ml : Nat) (wp : Int64) (wl : Int64) (ru : Nat) (sm : Nat) (x0 : Int32) (x1 : Int32) (x2 : Int32) (x3 : Int32) (hbad : x0.toInt < 0 ∨ 20 ≤ x0.toInt) (sz : Nat) : Met l yX6_drops wsX6_drops ({ frames := 2, cells := 0, slots := 0, locals := 42 } : Room) (va_Pc [.ref h0, .int x0, .int x1, .int x2, .int x3] (mPre D cI cJ cZ [(h0, .inr (6, [.int (nI thr), .int (nI mi), .int (nI me), .int (nI dp), .int (bI up), .int (nI dn), .ref ma, .ref mx, .ref mh, .ref mg, .ref mc, .ref mo, .ref mr, .ref mf, .long wp, .long wl, .int (nI ru), .int (nI sm), .ref mk, .ref ml]))] sz)) (Qi9 D (va_A [(h0, .inr (6, [.int (nI thr), .int (nI mi), .int (nI me), .int (nI dp), .int (bI up), .int (nI dn), .ref ma, .ref mx, .ref mh, .ref mg, .ref mc, .ref mo, .ref mr, .ref mf, .long wp, .long wl, .int (nI ru), .int (nI sm), .ref mk, .ref ml]))] sz) [(h0, .inr (6, [.int (nI 1), .int (nI mi), .int (nI me), .int (nI dp), .int (bI up), .int (nI dn), .ref ma, .ref mx, .ref mh, .ref mg, .ref mc, .ref mo, .ref mr, .ref mf, .long wp, .long wl, .int (nI ru), .int (nI sm), .ref mk, .ref ml]))] (nI 0)) 0 0 (va_A [(h0, .inr (6, [.int (nI thr), .int (nI mi), .int (nI me), .int (nI dp), .int (bI up), .int (nI dn), .ref ma, .ref mx, .ref mh, .ref mg, .ref mc, .ref mo, .ref mr, .ref mf, .long wp, .long wl, .int (nI ru), .int (nI sm), .ref mk, .ref ml]))] sz) := by
  refine Met.ofW (cc := cX6_drops) (maxL := 8) (ret := (some .int)) (by decide) rfl ?_
  intro p e s m args below meth c s₁ B hml hv
  obtain ⟨hargs, hsz, hP, hT, hD0⟩ := hv
  have hx := B.exec
  have hb := B.bytes
  have hr := B.returns
  have hts := atoms_spec (ws := wsX6_drops) B.pre
  have hown : s.vm.findClass RX6 = some m.cls := findClass_of_methodNamed B.named
  have hlocks := B.notSynchronized
  subst hsz
  have hK := hT.1
  have hD := hD0.self (sz := s.heap.size)
  generalize hAe : va_A [(h0, .inr (6, [.int (nI thr), .int (nI mi), .int (nI me), .int (nI dp), .int (bI up), .int (nI dn), .ref ma, .ref mx, .ref mh, .ref mg, .ref mc, .ref mo, .ref mr, .ref mf, .long wp, .long wl, .int (nI ru), .int (nI sm), .ref mk, .ref ml]))] s.heap.size = A at hD ⊢
  have hA : ∀ q : Nat, s.heap.size ≤ q → A q := fun q h => by rw [← hAe]; exact Or.inr h
  have hS : va_S A s.heap s.heap [] := va_S.rf
  obtain ⟨H, hHe⟩ : ∃ H : Heap, H = s.heap := ⟨_, rfl⟩
  have hS : va_S A s.heap H [] := by rw [hHe]; exact va_S.rf
  rw [← hHe] at hP
  suffices K0 : W p l e (headSpec wsX6_drops ({ frames := 2, cells := 0, slots := 0, locals := 42 } : Room)).room s m args below meth c H [] 0 0 (MQ below (Qi9 D A [(h0, .inr (6, [.int (nI 1), .int (nI mi), .int (nI me), .int (nI dp), .int (bI up), .int (nI dn), .ref ma, .ref mx, .ref mh, .ref mg, .ref mc, .ref mo, .ref mr, .ref mf, .long wp, .long wl, .int (nI ru), .int (nI sm), .ref mk, .ref ml]))] (nI 0)) args s 0 0 A) (entryFrame m args 8) by rw [hHe] at K0; exact K0
  refine W.eq (g2 := entryFrame m ([.ref h0, .int x0, .int x1, .int x2, .int x3] : List Value).toArray 8) (by rw [hargs]) ?_
  have hl := lv_entry ([.ref h0, .int x0, .int x1, .int x2, .int x3]) (n := 8) (Nat.le_of_ble_eq_true rfl)
  rw [lg_entry_eq]
  generalize (lg_sl ([.ref h0, .int x0, .int x1, .int x2, .int x3]) ++ List.replicate (8 - (lg_sl ([.ref h0, .int x0, .int x1, .int x2, .int x3])).length) Slot.unset).toArray = ls at hl ⊢
  have hl : lv_has ls 8 [(0, .ref h0), (1, .int x0), (2, .int x1), (3, .int x2), (4, .int x3)] := hl
  generalize ([] : List Loc) = locs at hS ⊢
  refine lv_iload_n hx hb dX6_drops_0 rfl (lv_at hl 1 rfl) ?_
  refine cr_i (wc := []) (w1 := []) (ws2 := [(h0, .inr (6, [.int (nI thr), .int (nI mi), .int (nI me), .int (nI dp), .int (bI up), .int (nI dn), .ref ma, .ref mx, .ref mh, .ref mg, .ref mc, .ref mo, .ref mr, .ref mf, .long wp, .long wl, .int (nI ru), .int (nI sm), .ref mk, .ref ml]))]) hP hD hS hA [] rfl rfl rfl (va_runS (As := [.int x0]) (rest := []) ⟨hx, hb, hml, hown, hts⟩ (c_X6_isPlace_F l D cI cJ cZ x0 (by omega) H.size) (va_cwS 1 hts gX6_drops_X6_isPlace rfl rfl rfl (by decide +kernel) ⟨Nat.le_of_ble_eq_true rfl, Nat.le_of_ble_eq_true rfl⟩) (pvS hT hP hD [] rfl rfl) rfl rfl hl.1 rfl (lv_room (Nat.le_of_ble_eq_true rfl)) dX6_drops_1 ⟨Nat.zero_le _, Nat.zero_le _⟩) (fun H locs hP hD hS => ?_)
  refine cb_eq (tgt := 18) hx hb dX6_drops_4 (by decide) (fun c_4 => ?_) (fun c_4 => absurd c_4 (by decide))
  refine lv_iconst (v := nI 0) hx hb dX6_drops_18 (by decide) ?_
  refine lv_istore (lv' := [(5, .int (nI 0)), (0, .ref h0), (1, .int x0), (2, .int x1), (3, .int x2), (4, .int x3)]) hx hb dX6_drops_19 hl (by decide) rfl (fun ls hl => ?_)
  refine lv_iload_n hx hb dX6_drops_21 rfl (lv_at hl 4 rfl) ?_
  refine lv_iconst (v := nI 1) hx hb dX6_drops_22 (by decide) ?_
  refine lv_iconst (v := nI 3) hx hb dX6_drops_23 (by decide) ?_
  refine cr_i (wc := []) (w1 := []) (ws2 := [(h0, .inr (6, [.int (nI thr), .int (nI mi), .int (nI me), .int (nI dp), .int (bI up), .int (nI dn), .ref ma, .ref mx, .ref mh, .ref mg, .ref mc, .ref mo, .ref mr, .ref mf, .long wp, .long wl, .int (nI ru), .int (nI sm), .ref mk, .ref ml]))]) hP hD hS hA [] rfl rfl rfl (va_runS (As := [.int x2, .int (nI 1), .int (nI 3)]) (rest := []) ⟨hx, hb, hml, hown, hts⟩ (c_X6_in_g l D cI cJ cZ x2 1 3 (by omega) (by omega) H.size) (va_cwS 3 hts gX6_drops_X6_in rfl rfl rfl (by decide +kernel) ⟨Nat.le_of_ble_eq_true rfl, Nat.le_of_ble_eq_true rfl⟩) (pvS hT hP hD [] rfl rfl) rfl rfl hl.1 rfl (lv_room (Nat.le_of_ble_eq_true rfl)) dX6_drops_24 ⟨Nat.zero_le _, Nat.zero_le _⟩) (fun H locs hP hD hS => ?_)
  refine cb_eq (tgt := 46) hx hb dX6_drops_27 (by decide) (fun c_27 => ?_) (fun c_27 => ?_)
  · refine lv_iconst (v := nI 0) hx hb dX6_drops_46 (by decide) ?_
    refine lv_istore (lv' := [(6, .int (nI 0)), (5, .int (nI 0)), (0, .ref h0), (1, .int x0), (2, .int x1), (3, .int x2), (4, .int x3)]) hx hb dX6_drops_47 hl (by decide) rfl (fun ls hl => ?_)
    refine lv_aload_n hx hb dX6_drops_49 rfl (lv_at hl 2 rfl) ?_
    refine lv_iload hx hb dX6_drops_50 (lv_at hl 1 rfl) ?_
    refine c0_ne (tgt := 59) hx hb dX6_drops_52 (by decide) (nT (by omega)) (fun c_52 => by omega) (fun c_52 => ?_)
    refine lv_iconst (v := nI 1) hx hb dX6_drops_55 (by decide) ?_
    refine lv_goto (tgt := 82) hx hb dX6_drops_56 (by decide) ?_
    refine cr_i (wc := [(h0, .inr (6, [.int (nI thr), .int (nI mi), .int (nI me), .int (nI dp), .int (bI up), .int (nI dn), .ref ma, .ref mx, .ref mh, .ref mg, .ref mc, .ref mo, .ref mr, .ref mf, .long wp, .long wl, .int (nI ru), .int (nI sm), .ref mk, .ref ml]))]) (w1 := [(h0, .inr (6, [.int (nI 1), .int (nI mi), .int (nI me), .int (nI dp), .int (bI up), .int (nI dn), .ref ma, .ref mx, .ref mh, .ref mg, .ref mc, .ref mo, .ref mr, .ref mf, .long wp, .long wl, .int (nI ru), .int (nI sm), .ref mk, .ref ml]))]) (ws2 := [(h0, .inr (6, [.int (nI 1), .int (nI mi), .int (nI me), .int (nI dp), .int (bI up), .int (nI dn), .ref ma, .ref mx, .ref mh, .ref mg, .ref mc, .ref mo, .ref mr, .ref mf, .long wp, .long wl, .int (nI ru), .int (nI sm), .ref mk, .ref ml]))]) hP hD hS hA [0] rfl rfl rfl (va_runV (As := [.int (nI 1)]) (rest := []) ⟨hx, hb, hml, hown, hts⟩ (c_X6_goesWell_no l D cI cJ cZ h0 thr mi me dp up dn ma mx mh mg mc mo mr mf mk ml wp wl ru sm 1 (by omega) (by omega) H.size) (cwV 1 hts gX6_drops_X6_goesWell rfl rfl rfl (by decide +kernel) ⟨Nat.le_of_ble_eq_true rfl, Nat.le_of_ble_eq_true rfl⟩) (pvV hT hP hD [0] rfl rfl 0 rfl rfl) rfl rfl hl.1 rfl (lv_room (Nat.le_of_ble_eq_true rfl)) dX6_drops_82 ⟨Nat.zero_le _, Nat.zero_le _⟩) (fun H locs hP hD hS => ?_)
    refine cb_ne (tgt := 90) hx hb dX6_drops_85 (by decide) (fun c_85 => absurd c_85 (by decide)) (fun c_85 => ?_)
    refine lv_iconst (v := nI 0) hx hb dX6_drops_88 (by decide) ?_
    exact fin_i hx hb hr hlocks hP hD hS (rfl) dX6_drops_89
  · refine lv_iload hx hb dX6_drops_30 (lv_at hl 5 rfl) ?_
    refine lv_iconst (v := nI 1) hx hb dX6_drops_32 (by decide) ?_
    refine lv_sipush (v := nI 1000) hx hb dX6_drops_33 (by decide) ?_
    refine cr_i (wc := []) (w1 := []) (ws2 := [(h0, .inr (6, [.int (nI thr), .int (nI mi), .int (nI me), .int (nI dp), .int (bI up), .int (nI dn), .ref ma, .ref mx, .ref mh, .ref mg, .ref mc, .ref mo, .ref mr, .ref mf, .long wp, .long wl, .int (nI ru), .int (nI sm), .ref mk, .ref ml]))]) hP hD hS hA [] rfl rfl rfl (va_runS (As := [.int x3, .int (nI 1), .int (nI 1000)]) (rest := []) ⟨hx, hb, hml, hown, hts⟩ (c_X6_in_g l D cI cJ cZ x3 1 1000 (by omega) (by omega) H.size) (va_cwS 3 hts gX6_drops_X6_in rfl rfl rfl (by decide +kernel) ⟨Nat.le_of_ble_eq_true rfl, Nat.le_of_ble_eq_true rfl⟩) (pvS hT hP hD [] rfl rfl) rfl rfl hl.1 rfl (lv_room (Nat.le_of_ble_eq_true rfl)) dX6_drops_36 ⟨Nat.zero_le _, Nat.zero_le _⟩) (fun H locs hP hD hS => ?_)
    refine cb_eq (tgt := 46) hx hb dX6_drops_39 (by decide) (fun c_39 => ?_) (fun c_39 => ?_)
    · refine lv_iconst (v := nI 0) hx hb dX6_drops_46 (by decide) ?_
      refine lv_istore (lv' := [(6, .int (nI 0)), (5, .int (nI 0)), (0, .ref h0), (1, .int x0), (2, .int x1), (3, .int x2), (4, .int x3)]) hx hb dX6_drops_47 hl (by decide) rfl (fun ls hl => ?_)
      refine lv_aload_n hx hb dX6_drops_49 rfl (lv_at hl 2 rfl) ?_
      refine lv_iload hx hb dX6_drops_50 (lv_at hl 1 rfl) ?_
      refine c0_ne (tgt := 59) hx hb dX6_drops_52 (by decide) (nT (by omega)) (fun c_52 => by omega) (fun c_52 => ?_)
      refine lv_iconst (v := nI 1) hx hb dX6_drops_55 (by decide) ?_
      refine lv_goto (tgt := 82) hx hb dX6_drops_56 (by decide) ?_
      refine cr_i (wc := [(h0, .inr (6, [.int (nI thr), .int (nI mi), .int (nI me), .int (nI dp), .int (bI up), .int (nI dn), .ref ma, .ref mx, .ref mh, .ref mg, .ref mc, .ref mo, .ref mr, .ref mf, .long wp, .long wl, .int (nI ru), .int (nI sm), .ref mk, .ref ml]))]) (w1 := [(h0, .inr (6, [.int (nI 1), .int (nI mi), .int (nI me), .int (nI dp), .int (bI up), .int (nI dn), .ref ma, .ref mx, .ref mh, .ref mg, .ref mc, .ref mo, .ref mr, .ref mf, .long wp, .long wl, .int (nI ru), .int (nI sm), .ref mk, .ref ml]))]) (ws2 := [(h0, .inr (6, [.int (nI 1), .int (nI mi), .int (nI me), .int (nI dp), .int (bI up), .int (nI dn), .ref ma, .ref mx, .ref mh, .ref mg, .ref mc, .ref mo, .ref mr, .ref mf, .long wp, .long wl, .int (nI ru), .int (nI sm), .ref mk, .ref ml]))]) hP hD hS hA [0] rfl rfl rfl (va_runV (As := [.int (nI 1)]) (rest := []) ⟨hx, hb, hml, hown, hts⟩ (c_X6_goesWell_no l D cI cJ cZ h0 thr mi me dp up dn ma mx mh mg mc mo mr mf mk ml wp wl ru sm 1 (by omega) (by omega) H.size) (cwV 1 hts gX6_drops_X6_goesWell rfl rfl rfl (by decide +kernel) ⟨Nat.le_of_ble_eq_true rfl, Nat.le_of_ble_eq_true rfl⟩) (pvV hT hP hD [0] rfl rfl 0 rfl rfl) rfl rfl hl.1 rfl (lv_room (Nat.le_of_ble_eq_true rfl)) dX6_drops_82 ⟨Nat.zero_le _, Nat.zero_le _⟩) (fun H locs hP hD hS => ?_)
      refine cb_ne (tgt := 90) hx hb dX6_drops_85 (by decide) (fun c_85 => absurd c_85 (by decide)) (fun c_85 => ?_)
      refine lv_iconst (v := nI 0) hx hb dX6_drops_88 (by decide) ?_
      exact fin_i hx hb hr hlocks hP hD hS (rfl) dX6_drops_89
    · refine lv_iconst (v := nI 1) hx hb dX6_drops_42 (by decide) ?_
      refine lv_goto (tgt := 47) hx hb dX6_drops_43 (by decide) ?_
      refine lv_istore (lv' := [(6, .int (nI 1)), (5, .int (nI 0)), (0, .ref h0), (1, .int x0), (2, .int x1), (3, .int x2), (4, .int x3)]) hx hb dX6_drops_47 hl (by decide) rfl (fun ls hl => ?_)
      refine lv_aload_n hx hb dX6_drops_49 rfl (lv_at hl 2 rfl) ?_
      refine lv_iload hx hb dX6_drops_50 (lv_at hl 1 rfl) ?_
      refine c0_ne (tgt := 59) hx hb dX6_drops_52 (by decide) (nT (by omega)) (fun c_52 => by omega) (fun c_52 => ?_)
      refine lv_iconst (v := nI 1) hx hb dX6_drops_55 (by decide) ?_
      refine lv_goto (tgt := 82) hx hb dX6_drops_56 (by decide) ?_
      refine cr_i (wc := [(h0, .inr (6, [.int (nI thr), .int (nI mi), .int (nI me), .int (nI dp), .int (bI up), .int (nI dn), .ref ma, .ref mx, .ref mh, .ref mg, .ref mc, .ref mo, .ref mr, .ref mf, .long wp, .long wl, .int (nI ru), .int (nI sm), .ref mk, .ref ml]))]) (w1 := [(h0, .inr (6, [.int (nI 1), .int (nI mi), .int (nI me), .int (nI dp), .int (bI up), .int (nI dn), .ref ma, .ref mx, .ref mh, .ref mg, .ref mc, .ref mo, .ref mr, .ref mf, .long wp, .long wl, .int (nI ru), .int (nI sm), .ref mk, .ref ml]))]) (ws2 := [(h0, .inr (6, [.int (nI 1), .int (nI mi), .int (nI me), .int (nI dp), .int (bI up), .int (nI dn), .ref ma, .ref mx, .ref mh, .ref mg, .ref mc, .ref mo, .ref mr, .ref mf, .long wp, .long wl, .int (nI ru), .int (nI sm), .ref mk, .ref ml]))]) hP hD hS hA [0] rfl rfl rfl (va_runV (As := [.int (nI 1)]) (rest := []) ⟨hx, hb, hml, hown, hts⟩ (c_X6_goesWell_no l D cI cJ cZ h0 thr mi me dp up dn ma mx mh mg mc mo mr mf mk ml wp wl ru sm 1 (by omega) (by omega) H.size) (cwV 1 hts gX6_drops_X6_goesWell rfl rfl rfl (by decide +kernel) ⟨Nat.le_of_ble_eq_true rfl, Nat.le_of_ble_eq_true rfl⟩) (pvV hT hP hD [0] rfl rfl 0 rfl rfl) rfl rfl hl.1 rfl (lv_room (Nat.le_of_ble_eq_true rfl)) dX6_drops_82 ⟨Nat.zero_le _, Nat.zero_le _⟩) (fun H locs hP hD hS => ?_)
      refine cb_ne (tgt := 90) hx hb dX6_drops_85 (by decide) (fun c_85 => absurd c_85 (by decide)) (fun c_85 => ?_)
      refine lv_iconst (v := nI 0) hx hb dX6_drops_88 (by decide) ?_
      exact fin_i hx hb hr hlocks hP hD hS (rfl) dX6_drops_89
set_option maxHeartbeats 4000000 in
set_option maxRecDepth 100000 in
theorem c_X6_drops_b1 (l : Launch) (D : va_G) (cI cJ cZ : ClassId) (h0 : Nat) (thr : Nat) (mi : Nat) (me : Nat) (dp : Nat) (up : Bool) (dn : Nat) (ma : Nat) (mx : Nat) (mh : Nat) (mg : Nat) (mc : Nat) (mo : Nat) (mr : Nat) (mf : Nat) (mk : Nat) (ml : Nat) (wp : Int64) (wl : Int64) (ru : Nat) (sm : Nat) (ki : Nat) (x1 : Int32) (x2 : Int32) (x3 : Int32) (hki : ki < 20) (hbad : x1.toInt < 0 ∨ 10 ≤ x1.toInt) (sz : Nat) : Met l yX6_drops wsX6_drops ({ frames := 2, cells := 0, slots := 0, locals := 42 } : Room) (va_Pc [.ref h0, .int (nI ki), .int x1, .int x2, .int x3] (mPre D cI cJ cZ [(h0, .inr (6, [.int (nI thr), .int (nI mi), .int (nI me), .int (nI dp), .int (bI up), .int (nI dn), .ref ma, .ref mx, .ref mh, .ref mg, .ref mc, .ref mo, .ref mr, .ref mf, .long wp, .long wl, .int (nI ru), .int (nI sm), .ref mk, .ref ml]))] sz)) (Qi9 D (va_A [(h0, .inr (6, [.int (nI thr), .int (nI mi), .int (nI me), .int (nI dp), .int (bI up), .int (nI dn), .ref ma, .ref mx, .ref mh, .ref mg, .ref mc, .ref mo, .ref mr, .ref mf, .long wp, .long wl, .int (nI ru), .int (nI sm), .ref mk, .ref ml]))] sz) [(h0, .inr (6, [.int (nI 1), .int (nI mi), .int (nI me), .int (nI dp), .int (bI up), .int (nI dn), .ref ma, .ref mx, .ref mh, .ref mg, .ref mc, .ref mo, .ref mr, .ref mf, .long wp, .long wl, .int (nI ru), .int (nI sm), .ref mk, .ref ml]))] (nI 0)) 0 0 (va_A [(h0, .inr (6, [.int (nI thr), .int (nI mi), .int (nI me), .int (nI dp), .int (bI up), .int (nI dn), .ref ma, .ref mx, .ref mh, .ref mg, .ref mc, .ref mo, .ref mr, .ref mf, .long wp, .long wl, .int (nI ru), .int (nI sm), .ref mk, .ref ml]))] sz) := by
  refine Met.ofW (cc := cX6_drops) (maxL := 8) (ret := (some .int)) (by decide) rfl ?_
  intro p e s m args below meth c s₁ B hml hv
  obtain ⟨hargs, hsz, hP, hT, hD0⟩ := hv
  have hx := B.exec
  have hb := B.bytes
  have hr := B.returns
  have hts := atoms_spec (ws := wsX6_drops) B.pre
  have hown : s.vm.findClass RX6 = some m.cls := findClass_of_methodNamed B.named
  have hlocks := B.notSynchronized
  subst hsz
  have hK := hT.1
  have hD := hD0.self (sz := s.heap.size)
  generalize hAe : va_A [(h0, .inr (6, [.int (nI thr), .int (nI mi), .int (nI me), .int (nI dp), .int (bI up), .int (nI dn), .ref ma, .ref mx, .ref mh, .ref mg, .ref mc, .ref mo, .ref mr, .ref mf, .long wp, .long wl, .int (nI ru), .int (nI sm), .ref mk, .ref ml]))] s.heap.size = A at hD ⊢
  have hA : ∀ q : Nat, s.heap.size ≤ q → A q := fun q h => by rw [← hAe]; exact Or.inr h
  have hS : va_S A s.heap s.heap [] := va_S.rf
  obtain ⟨H, hHe⟩ : ∃ H : Heap, H = s.heap := ⟨_, rfl⟩
  have hS : va_S A s.heap H [] := by rw [hHe]; exact va_S.rf
  rw [← hHe] at hP
  suffices K0 : W p l e (headSpec wsX6_drops ({ frames := 2, cells := 0, slots := 0, locals := 42 } : Room)).room s m args below meth c H [] 0 0 (MQ below (Qi9 D A [(h0, .inr (6, [.int (nI 1), .int (nI mi), .int (nI me), .int (nI dp), .int (bI up), .int (nI dn), .ref ma, .ref mx, .ref mh, .ref mg, .ref mc, .ref mo, .ref mr, .ref mf, .long wp, .long wl, .int (nI ru), .int (nI sm), .ref mk, .ref ml]))] (nI 0)) args s 0 0 A) (entryFrame m args 8) by rw [hHe] at K0; exact K0
  refine W.eq (g2 := entryFrame m ([.ref h0, .int (nI ki), .int x1, .int x2, .int x3] : List Value).toArray 8) (by rw [hargs]) ?_
  have hl := lv_entry ([.ref h0, .int (nI ki), .int x1, .int x2, .int x3]) (n := 8) (Nat.le_of_ble_eq_true rfl)
  rw [lg_entry_eq]
  generalize (lg_sl ([.ref h0, .int (nI ki), .int x1, .int x2, .int x3]) ++ List.replicate (8 - (lg_sl ([.ref h0, .int (nI ki), .int x1, .int x2, .int x3])).length) Slot.unset).toArray = ls at hl ⊢
  have hl : lv_has ls 8 [(0, .ref h0), (1, .int (nI ki)), (2, .int x1), (3, .int x2), (4, .int x3)] := hl
  generalize ([] : List Loc) = locs at hS ⊢
  refine lv_iload_n hx hb dX6_drops_0 rfl (lv_at hl 1 rfl) ?_
  refine cr_i (wc := []) (w1 := []) (ws2 := [(h0, .inr (6, [.int (nI thr), .int (nI mi), .int (nI me), .int (nI dp), .int (bI up), .int (nI dn), .ref ma, .ref mx, .ref mh, .ref mg, .ref mc, .ref mo, .ref mr, .ref mf, .long wp, .long wl, .int (nI ru), .int (nI sm), .ref mk, .ref ml]))]) hP hD hS hA [] rfl rfl rfl (va_runS (As := [.int (nI ki)]) (rest := []) ⟨hx, hb, hml, hown, hts⟩ (c_X6_isPlace_T l D cI cJ cZ ki (by omega) H.size) (va_cwS 1 hts gX6_drops_X6_isPlace rfl rfl rfl (by decide +kernel) ⟨Nat.le_of_ble_eq_true rfl, Nat.le_of_ble_eq_true rfl⟩) (pvS hT hP hD [] rfl rfl) rfl rfl hl.1 rfl (lv_room (Nat.le_of_ble_eq_true rfl)) dX6_drops_1 ⟨Nat.zero_le _, Nat.zero_le _⟩) (fun H locs hP hD hS => ?_)
  refine cb_eq (tgt := 18) hx hb dX6_drops_4 (by decide) (fun c_4 => absurd c_4 (by decide)) (fun c_4 => ?_)
  refine lv_iload_n hx hb dX6_drops_7 rfl (lv_at hl 2 rfl) ?_
  refine cr_i (wc := []) (w1 := []) (ws2 := [(h0, .inr (6, [.int (nI thr), .int (nI mi), .int (nI me), .int (nI dp), .int (bI up), .int (nI dn), .ref ma, .ref mx, .ref mh, .ref mg, .ref mc, .ref mo, .ref mr, .ref mf, .long wp, .long wl, .int (nI ru), .int (nI sm), .ref mk, .ref ml]))]) hP hD hS hA [] rfl rfl rfl (va_runS (As := [.int x1]) (rest := []) ⟨hx, hb, hml, hown, hts⟩ (c_X6_isLayer_F l D cI cJ cZ x1 (by omega) H.size) (va_cwS 1 hts gX6_drops_X6_isLayer rfl rfl rfl (by decide +kernel) ⟨Nat.le_of_ble_eq_true rfl, Nat.le_of_ble_eq_true rfl⟩) (pvS hT hP hD [] rfl rfl) rfl rfl hl.1 rfl (lv_room (Nat.le_of_ble_eq_true rfl)) dX6_drops_8 ⟨Nat.zero_le _, Nat.zero_le _⟩) (fun H locs hP hD hS => ?_)
  refine cb_eq (tgt := 18) hx hb dX6_drops_11 (by decide) (fun c_11 => ?_) (fun c_11 => absurd c_11 (by decide))
  refine lv_iconst (v := nI 0) hx hb dX6_drops_18 (by decide) ?_
  refine lv_istore (lv' := [(5, .int (nI 0)), (0, .ref h0), (1, .int (nI ki)), (2, .int x1), (3, .int x2), (4, .int x3)]) hx hb dX6_drops_19 hl (by decide) rfl (fun ls hl => ?_)
  refine lv_iload_n hx hb dX6_drops_21 rfl (lv_at hl 4 rfl) ?_
  refine lv_iconst (v := nI 1) hx hb dX6_drops_22 (by decide) ?_
  refine lv_iconst (v := nI 3) hx hb dX6_drops_23 (by decide) ?_
  refine cr_i (wc := []) (w1 := []) (ws2 := [(h0, .inr (6, [.int (nI thr), .int (nI mi), .int (nI me), .int (nI dp), .int (bI up), .int (nI dn), .ref ma, .ref mx, .ref mh, .ref mg, .ref mc, .ref mo, .ref mr, .ref mf, .long wp, .long wl, .int (nI ru), .int (nI sm), .ref mk, .ref ml]))]) hP hD hS hA [] rfl rfl rfl (va_runS (As := [.int x2, .int (nI 1), .int (nI 3)]) (rest := []) ⟨hx, hb, hml, hown, hts⟩ (c_X6_in_g l D cI cJ cZ x2 1 3 (by omega) (by omega) H.size) (va_cwS 3 hts gX6_drops_X6_in rfl rfl rfl (by decide +kernel) ⟨Nat.le_of_ble_eq_true rfl, Nat.le_of_ble_eq_true rfl⟩) (pvS hT hP hD [] rfl rfl) rfl rfl hl.1 rfl (lv_room (Nat.le_of_ble_eq_true rfl)) dX6_drops_24 ⟨Nat.zero_le _, Nat.zero_le _⟩) (fun H locs hP hD hS => ?_)
  refine cb_eq (tgt := 46) hx hb dX6_drops_27 (by decide) (fun c_27 => ?_) (fun c_27 => ?_)
  · refine lv_iconst (v := nI 0) hx hb dX6_drops_46 (by decide) ?_
    refine lv_istore (lv' := [(6, .int (nI 0)), (5, .int (nI 0)), (0, .ref h0), (1, .int (nI ki)), (2, .int x1), (3, .int x2), (4, .int x3)]) hx hb dX6_drops_47 hl (by decide) rfl (fun ls hl => ?_)
    refine lv_aload_n hx hb dX6_drops_49 rfl (lv_at hl 2 rfl) ?_
    refine lv_iload hx hb dX6_drops_50 (lv_at hl 1 rfl) ?_
    refine c0_ne (tgt := 59) hx hb dX6_drops_52 (by decide) (nT (by omega)) (fun c_52 => by omega) (fun c_52 => ?_)
    refine lv_iconst (v := nI 1) hx hb dX6_drops_55 (by decide) ?_
    refine lv_goto (tgt := 82) hx hb dX6_drops_56 (by decide) ?_
    refine cr_i (wc := [(h0, .inr (6, [.int (nI thr), .int (nI mi), .int (nI me), .int (nI dp), .int (bI up), .int (nI dn), .ref ma, .ref mx, .ref mh, .ref mg, .ref mc, .ref mo, .ref mr, .ref mf, .long wp, .long wl, .int (nI ru), .int (nI sm), .ref mk, .ref ml]))]) (w1 := [(h0, .inr (6, [.int (nI 1), .int (nI mi), .int (nI me), .int (nI dp), .int (bI up), .int (nI dn), .ref ma, .ref mx, .ref mh, .ref mg, .ref mc, .ref mo, .ref mr, .ref mf, .long wp, .long wl, .int (nI ru), .int (nI sm), .ref mk, .ref ml]))]) (ws2 := [(h0, .inr (6, [.int (nI 1), .int (nI mi), .int (nI me), .int (nI dp), .int (bI up), .int (nI dn), .ref ma, .ref mx, .ref mh, .ref mg, .ref mc, .ref mo, .ref mr, .ref mf, .long wp, .long wl, .int (nI ru), .int (nI sm), .ref mk, .ref ml]))]) hP hD hS hA [0] rfl rfl rfl (va_runV (As := [.int (nI 1)]) (rest := []) ⟨hx, hb, hml, hown, hts⟩ (c_X6_goesWell_no l D cI cJ cZ h0 thr mi me dp up dn ma mx mh mg mc mo mr mf mk ml wp wl ru sm 1 (by omega) (by omega) H.size) (cwV 1 hts gX6_drops_X6_goesWell rfl rfl rfl (by decide +kernel) ⟨Nat.le_of_ble_eq_true rfl, Nat.le_of_ble_eq_true rfl⟩) (pvV hT hP hD [0] rfl rfl 0 rfl rfl) rfl rfl hl.1 rfl (lv_room (Nat.le_of_ble_eq_true rfl)) dX6_drops_82 ⟨Nat.zero_le _, Nat.zero_le _⟩) (fun H locs hP hD hS => ?_)
    refine cb_ne (tgt := 90) hx hb dX6_drops_85 (by decide) (fun c_85 => absurd c_85 (by decide)) (fun c_85 => ?_)
    refine lv_iconst (v := nI 0) hx hb dX6_drops_88 (by decide) ?_
    exact fin_i hx hb hr hlocks hP hD hS (rfl) dX6_drops_89
  · refine lv_iload hx hb dX6_drops_30 (lv_at hl 5 rfl) ?_
    refine lv_iconst (v := nI 1) hx hb dX6_drops_32 (by decide) ?_
    refine lv_sipush (v := nI 1000) hx hb dX6_drops_33 (by decide) ?_
    refine cr_i (wc := []) (w1 := []) (ws2 := [(h0, .inr (6, [.int (nI thr), .int (nI mi), .int (nI me), .int (nI dp), .int (bI up), .int (nI dn), .ref ma, .ref mx, .ref mh, .ref mg, .ref mc, .ref mo, .ref mr, .ref mf, .long wp, .long wl, .int (nI ru), .int (nI sm), .ref mk, .ref ml]))]) hP hD hS hA [] rfl rfl rfl (va_runS (As := [.int x3, .int (nI 1), .int (nI 1000)]) (rest := []) ⟨hx, hb, hml, hown, hts⟩ (c_X6_in_g l D cI cJ cZ x3 1 1000 (by omega) (by omega) H.size) (va_cwS 3 hts gX6_drops_X6_in rfl rfl rfl (by decide +kernel) ⟨Nat.le_of_ble_eq_true rfl, Nat.le_of_ble_eq_true rfl⟩) (pvS hT hP hD [] rfl rfl) rfl rfl hl.1 rfl (lv_room (Nat.le_of_ble_eq_true rfl)) dX6_drops_36 ⟨Nat.zero_le _, Nat.zero_le _⟩) (fun H locs hP hD hS => ?_)
    refine cb_eq (tgt := 46) hx hb dX6_drops_39 (by decide) (fun c_39 => ?_) (fun c_39 => ?_)
    · refine lv_iconst (v := nI 0) hx hb dX6_drops_46 (by decide) ?_
      refine lv_istore (lv' := [(6, .int (nI 0)), (5, .int (nI 0)), (0, .ref h0), (1, .int (nI ki)), (2, .int x1), (3, .int x2), (4, .int x3)]) hx hb dX6_drops_47 hl (by decide) rfl (fun ls hl => ?_)
      refine lv_aload_n hx hb dX6_drops_49 rfl (lv_at hl 2 rfl) ?_
      refine lv_iload hx hb dX6_drops_50 (lv_at hl 1 rfl) ?_
      refine c0_ne (tgt := 59) hx hb dX6_drops_52 (by decide) (nT (by omega)) (fun c_52 => by omega) (fun c_52 => ?_)
      refine lv_iconst (v := nI 1) hx hb dX6_drops_55 (by decide) ?_
      refine lv_goto (tgt := 82) hx hb dX6_drops_56 (by decide) ?_
      refine cr_i (wc := [(h0, .inr (6, [.int (nI thr), .int (nI mi), .int (nI me), .int (nI dp), .int (bI up), .int (nI dn), .ref ma, .ref mx, .ref mh, .ref mg, .ref mc, .ref mo, .ref mr, .ref mf, .long wp, .long wl, .int (nI ru), .int (nI sm), .ref mk, .ref ml]))]) (w1 := [(h0, .inr (6, [.int (nI 1), .int (nI mi), .int (nI me), .int (nI dp), .int (bI up), .int (nI dn), .ref ma, .ref mx, .ref mh, .ref mg, .ref mc, .ref mo, .ref mr, .ref mf, .long wp, .long wl, .int (nI ru), .int (nI sm), .ref mk, .ref ml]))]) (ws2 := [(h0, .inr (6, [.int (nI 1), .int (nI mi), .int (nI me), .int (nI dp), .int (bI up), .int (nI dn), .ref ma, .ref mx, .ref mh, .ref mg, .ref mc, .ref mo, .ref mr, .ref mf, .long wp, .long wl, .int (nI ru), .int (nI sm), .ref mk, .ref ml]))]) hP hD hS hA [0] rfl rfl rfl (va_runV (As := [.int (nI 1)]) (rest := []) ⟨hx, hb, hml, hown, hts⟩ (c_X6_goesWell_no l D cI cJ cZ h0 thr mi me dp up dn ma mx mh mg mc mo mr mf mk ml wp wl ru sm 1 (by omega) (by omega) H.size) (cwV 1 hts gX6_drops_X6_goesWell rfl rfl rfl (by decide +kernel) ⟨Nat.le_of_ble_eq_true rfl, Nat.le_of_ble_eq_true rfl⟩) (pvV hT hP hD [0] rfl rfl 0 rfl rfl) rfl rfl hl.1 rfl (lv_room (Nat.le_of_ble_eq_true rfl)) dX6_drops_82 ⟨Nat.zero_le _, Nat.zero_le _⟩) (fun H locs hP hD hS => ?_)
      refine cb_ne (tgt := 90) hx hb dX6_drops_85 (by decide) (fun c_85 => absurd c_85 (by decide)) (fun c_85 => ?_)
      refine lv_iconst (v := nI 0) hx hb dX6_drops_88 (by decide) ?_
      exact fin_i hx hb hr hlocks hP hD hS (rfl) dX6_drops_89
    · refine lv_iconst (v := nI 1) hx hb dX6_drops_42 (by decide) ?_
      refine lv_goto (tgt := 47) hx hb dX6_drops_43 (by decide) ?_
      refine lv_istore (lv' := [(6, .int (nI 1)), (5, .int (nI 0)), (0, .ref h0), (1, .int (nI ki)), (2, .int x1), (3, .int x2), (4, .int x3)]) hx hb dX6_drops_47 hl (by decide) rfl (fun ls hl => ?_)
      refine lv_aload_n hx hb dX6_drops_49 rfl (lv_at hl 2 rfl) ?_
      refine lv_iload hx hb dX6_drops_50 (lv_at hl 1 rfl) ?_
      refine c0_ne (tgt := 59) hx hb dX6_drops_52 (by decide) (nT (by omega)) (fun c_52 => by omega) (fun c_52 => ?_)
      refine lv_iconst (v := nI 1) hx hb dX6_drops_55 (by decide) ?_
      refine lv_goto (tgt := 82) hx hb dX6_drops_56 (by decide) ?_
      refine cr_i (wc := [(h0, .inr (6, [.int (nI thr), .int (nI mi), .int (nI me), .int (nI dp), .int (bI up), .int (nI dn), .ref ma, .ref mx, .ref mh, .ref mg, .ref mc, .ref mo, .ref mr, .ref mf, .long wp, .long wl, .int (nI ru), .int (nI sm), .ref mk, .ref ml]))]) (w1 := [(h0, .inr (6, [.int (nI 1), .int (nI mi), .int (nI me), .int (nI dp), .int (bI up), .int (nI dn), .ref ma, .ref mx, .ref mh, .ref mg, .ref mc, .ref mo, .ref mr, .ref mf, .long wp, .long wl, .int (nI ru), .int (nI sm), .ref mk, .ref ml]))]) (ws2 := [(h0, .inr (6, [.int (nI 1), .int (nI mi), .int (nI me), .int (nI dp), .int (bI up), .int (nI dn), .ref ma, .ref mx, .ref mh, .ref mg, .ref mc, .ref mo, .ref mr, .ref mf, .long wp, .long wl, .int (nI ru), .int (nI sm), .ref mk, .ref ml]))]) hP hD hS hA [0] rfl rfl rfl (va_runV (As := [.int (nI 1)]) (rest := []) ⟨hx, hb, hml, hown, hts⟩ (c_X6_goesWell_no l D cI cJ cZ h0 thr mi me dp up dn ma mx mh mg mc mo mr mf mk ml wp wl ru sm 1 (by omega) (by omega) H.size) (cwV 1 hts gX6_drops_X6_goesWell rfl rfl rfl (by decide +kernel) ⟨Nat.le_of_ble_eq_true rfl, Nat.le_of_ble_eq_true rfl⟩) (pvV hT hP hD [0] rfl rfl 0 rfl rfl) rfl rfl hl.1 rfl (lv_room (Nat.le_of_ble_eq_true rfl)) dX6_drops_82 ⟨Nat.zero_le _, Nat.zero_le _⟩) (fun H locs hP hD hS => ?_)
      refine cb_ne (tgt := 90) hx hb dX6_drops_85 (by decide) (fun c_85 => absurd c_85 (by decide)) (fun c_85 => ?_)
      refine lv_iconst (v := nI 0) hx hb dX6_drops_88 (by decide) ?_
      exact fin_i hx hb hr hlocks hP hD hS (rfl) dX6_drops_89
set_option maxHeartbeats 4000000 in
set_option maxRecDepth 100000 in
theorem c_X6_drops_b2 (l : Launch) (D : va_G) (cI cJ cZ : ClassId) (h0 : Nat) (thr : Nat) (mi : Nat) (me : Nat) (dp : Nat) (up : Bool) (dn : Nat) (ma : Nat) (mx : Nat) (mh : Nat) (mg : Nat) (mc : Nat) (mo : Nat) (mr : Nat) (mf : Nat) (mk : Nat) (ml : Nat) (wp : Int64) (wl : Int64) (ru : Nat) (sm : Nat) (ki : Nat) (la : Nat) (x2 : Int32) (x3 : Int32) (hki : ki < 20) (hla : la < 10) (hbad : x2.toInt < 1 ∨ 3 < x2.toInt) (sz : Nat) : Met l yX6_drops wsX6_drops ({ frames := 2, cells := 0, slots := 0, locals := 42 } : Room) (va_Pc [.ref h0, .int (nI ki), .int (nI la), .int x2, .int x3] (mPre D cI cJ cZ [(h0, .inr (6, [.int (nI thr), .int (nI mi), .int (nI me), .int (nI dp), .int (bI up), .int (nI dn), .ref ma, .ref mx, .ref mh, .ref mg, .ref mc, .ref mo, .ref mr, .ref mf, .long wp, .long wl, .int (nI ru), .int (nI sm), .ref mk, .ref ml]))] sz)) (Qi9 D (va_A [(h0, .inr (6, [.int (nI thr), .int (nI mi), .int (nI me), .int (nI dp), .int (bI up), .int (nI dn), .ref ma, .ref mx, .ref mh, .ref mg, .ref mc, .ref mo, .ref mr, .ref mf, .long wp, .long wl, .int (nI ru), .int (nI sm), .ref mk, .ref ml]))] sz) [(h0, .inr (6, [.int (nI 2), .int (nI mi), .int (nI me), .int (nI dp), .int (bI up), .int (nI dn), .ref ma, .ref mx, .ref mh, .ref mg, .ref mc, .ref mo, .ref mr, .ref mf, .long wp, .long wl, .int (nI ru), .int (nI sm), .ref mk, .ref ml]))] (nI 0)) 0 0 (va_A [(h0, .inr (6, [.int (nI thr), .int (nI mi), .int (nI me), .int (nI dp), .int (bI up), .int (nI dn), .ref ma, .ref mx, .ref mh, .ref mg, .ref mc, .ref mo, .ref mr, .ref mf, .long wp, .long wl, .int (nI ru), .int (nI sm), .ref mk, .ref ml]))] sz) := by
  refine Met.ofW (cc := cX6_drops) (maxL := 8) (ret := (some .int)) (by decide) rfl ?_
  intro p e s m args below meth c s₁ B hml hv
  obtain ⟨hargs, hsz, hP, hT, hD0⟩ := hv
  have hx := B.exec
  have hb := B.bytes
  have hr := B.returns
  have hts := atoms_spec (ws := wsX6_drops) B.pre
  have hown : s.vm.findClass RX6 = some m.cls := findClass_of_methodNamed B.named
  have hlocks := B.notSynchronized
  subst hsz
  have hK := hT.1
  have hD := hD0.self (sz := s.heap.size)
  generalize hAe : va_A [(h0, .inr (6, [.int (nI thr), .int (nI mi), .int (nI me), .int (nI dp), .int (bI up), .int (nI dn), .ref ma, .ref mx, .ref mh, .ref mg, .ref mc, .ref mo, .ref mr, .ref mf, .long wp, .long wl, .int (nI ru), .int (nI sm), .ref mk, .ref ml]))] s.heap.size = A at hD ⊢
  have hA : ∀ q : Nat, s.heap.size ≤ q → A q := fun q h => by rw [← hAe]; exact Or.inr h
  have hS : va_S A s.heap s.heap [] := va_S.rf
  obtain ⟨H, hHe⟩ : ∃ H : Heap, H = s.heap := ⟨_, rfl⟩
  have hS : va_S A s.heap H [] := by rw [hHe]; exact va_S.rf
  rw [← hHe] at hP
  suffices K0 : W p l e (headSpec wsX6_drops ({ frames := 2, cells := 0, slots := 0, locals := 42 } : Room)).room s m args below meth c H [] 0 0 (MQ below (Qi9 D A [(h0, .inr (6, [.int (nI 2), .int (nI mi), .int (nI me), .int (nI dp), .int (bI up), .int (nI dn), .ref ma, .ref mx, .ref mh, .ref mg, .ref mc, .ref mo, .ref mr, .ref mf, .long wp, .long wl, .int (nI ru), .int (nI sm), .ref mk, .ref ml]))] (nI 0)) args s 0 0 A) (entryFrame m args 8) by rw [hHe] at K0; exact K0
  refine W.eq (g2 := entryFrame m ([.ref h0, .int (nI ki), .int (nI la), .int x2, .int x3] : List Value).toArray 8) (by rw [hargs]) ?_
  have hl := lv_entry ([.ref h0, .int (nI ki), .int (nI la), .int x2, .int x3]) (n := 8) (Nat.le_of_ble_eq_true rfl)
  rw [lg_entry_eq]
  generalize (lg_sl ([.ref h0, .int (nI ki), .int (nI la), .int x2, .int x3]) ++ List.replicate (8 - (lg_sl ([.ref h0, .int (nI ki), .int (nI la), .int x2, .int x3])).length) Slot.unset).toArray = ls at hl ⊢
  have hl : lv_has ls 8 [(0, .ref h0), (1, .int (nI ki)), (2, .int (nI la)), (3, .int x2), (4, .int x3)] := hl
  generalize ([] : List Loc) = locs at hS ⊢
  refine lv_iload_n hx hb dX6_drops_0 rfl (lv_at hl 1 rfl) ?_
  refine cr_i (wc := []) (w1 := []) (ws2 := [(h0, .inr (6, [.int (nI thr), .int (nI mi), .int (nI me), .int (nI dp), .int (bI up), .int (nI dn), .ref ma, .ref mx, .ref mh, .ref mg, .ref mc, .ref mo, .ref mr, .ref mf, .long wp, .long wl, .int (nI ru), .int (nI sm), .ref mk, .ref ml]))]) hP hD hS hA [] rfl rfl rfl (va_runS (As := [.int (nI ki)]) (rest := []) ⟨hx, hb, hml, hown, hts⟩ (c_X6_isPlace_T l D cI cJ cZ ki (by omega) H.size) (va_cwS 1 hts gX6_drops_X6_isPlace rfl rfl rfl (by decide +kernel) ⟨Nat.le_of_ble_eq_true rfl, Nat.le_of_ble_eq_true rfl⟩) (pvS hT hP hD [] rfl rfl) rfl rfl hl.1 rfl (lv_room (Nat.le_of_ble_eq_true rfl)) dX6_drops_1 ⟨Nat.zero_le _, Nat.zero_le _⟩) (fun H locs hP hD hS => ?_)
  refine cb_eq (tgt := 18) hx hb dX6_drops_4 (by decide) (fun c_4 => absurd c_4 (by decide)) (fun c_4 => ?_)
  refine lv_iload_n hx hb dX6_drops_7 rfl (lv_at hl 2 rfl) ?_
  refine cr_i (wc := []) (w1 := []) (ws2 := [(h0, .inr (6, [.int (nI thr), .int (nI mi), .int (nI me), .int (nI dp), .int (bI up), .int (nI dn), .ref ma, .ref mx, .ref mh, .ref mg, .ref mc, .ref mo, .ref mr, .ref mf, .long wp, .long wl, .int (nI ru), .int (nI sm), .ref mk, .ref ml]))]) hP hD hS hA [] rfl rfl rfl (va_runS (As := [.int (nI la)]) (rest := []) ⟨hx, hb, hml, hown, hts⟩ (c_X6_isLayer_T l D cI cJ cZ la (by omega) H.size) (va_cwS 1 hts gX6_drops_X6_isLayer rfl rfl rfl (by decide +kernel) ⟨Nat.le_of_ble_eq_true rfl, Nat.le_of_ble_eq_true rfl⟩) (pvS hT hP hD [] rfl rfl) rfl rfl hl.1 rfl (lv_room (Nat.le_of_ble_eq_true rfl)) dX6_drops_8 ⟨Nat.zero_le _, Nat.zero_le _⟩) (fun H locs hP hD hS => ?_)
  refine cb_eq (tgt := 18) hx hb dX6_drops_11 (by decide) (fun c_11 => absurd c_11 (by decide)) (fun c_11 => ?_)
  refine lv_iconst (v := nI 1) hx hb dX6_drops_14 (by decide) ?_
  refine lv_goto (tgt := 19) hx hb dX6_drops_15 (by decide) ?_
  refine lv_istore (lv' := [(5, .int (nI 1)), (0, .ref h0), (1, .int (nI ki)), (2, .int (nI la)), (3, .int x2), (4, .int x3)]) hx hb dX6_drops_19 hl (by decide) rfl (fun ls hl => ?_)
  refine lv_iload_n hx hb dX6_drops_21 rfl (lv_at hl 4 rfl) ?_
  refine lv_iconst (v := nI 1) hx hb dX6_drops_22 (by decide) ?_
  refine lv_iconst (v := nI 3) hx hb dX6_drops_23 (by decide) ?_
  refine cr_i (wc := []) (w1 := []) (ws2 := [(h0, .inr (6, [.int (nI thr), .int (nI mi), .int (nI me), .int (nI dp), .int (bI up), .int (nI dn), .ref ma, .ref mx, .ref mh, .ref mg, .ref mc, .ref mo, .ref mr, .ref mf, .long wp, .long wl, .int (nI ru), .int (nI sm), .ref mk, .ref ml]))]) hP hD hS hA [] rfl rfl rfl (va_runS (As := [.int x2, .int (nI 1), .int (nI 3)]) (rest := []) ⟨hx, hb, hml, hown, hts⟩ (c_X6_in_F l D cI cJ cZ x2 1 3 (by omega) (by omega) (by omega) H.size) (va_cwS 3 hts gX6_drops_X6_in rfl rfl rfl (by decide +kernel) ⟨Nat.le_of_ble_eq_true rfl, Nat.le_of_ble_eq_true rfl⟩) (pvS hT hP hD [] rfl rfl) rfl rfl hl.1 rfl (lv_room (Nat.le_of_ble_eq_true rfl)) dX6_drops_24 ⟨Nat.zero_le _, Nat.zero_le _⟩) (fun H locs hP hD hS => ?_)
  refine cb_eq (tgt := 46) hx hb dX6_drops_27 (by decide) (fun c_27 => ?_) (fun c_27 => absurd c_27 (by decide))
  refine lv_iconst (v := nI 0) hx hb dX6_drops_46 (by decide) ?_
  refine lv_istore (lv' := [(6, .int (nI 0)), (5, .int (nI 1)), (0, .ref h0), (1, .int (nI ki)), (2, .int (nI la)), (3, .int x2), (4, .int x3)]) hx hb dX6_drops_47 hl (by decide) rfl (fun ls hl => ?_)
  refine lv_aload_n hx hb dX6_drops_49 rfl (lv_at hl 2 rfl) ?_
  refine lv_iload hx hb dX6_drops_50 (lv_at hl 1 rfl) ?_
  refine c0_ne (tgt := 59) hx hb dX6_drops_52 (by decide) (nT (by omega)) (fun c_52 => ?_) (fun c_52 => by omega)
  refine lv_iload hx hb dX6_drops_59 (lv_at hl 0 rfl) ?_
  refine c0_ne (tgt := 68) hx hb dX6_drops_61 (by decide) (nT (by omega)) (fun c_61 => by omega) (fun c_61 => ?_)
  refine lv_iconst (v := nI 2) hx hb dX6_drops_64 (by decide) ?_
  refine lv_goto (tgt := 82) hx hb dX6_drops_65 (by decide) ?_
  refine cr_i (wc := [(h0, .inr (6, [.int (nI thr), .int (nI mi), .int (nI me), .int (nI dp), .int (bI up), .int (nI dn), .ref ma, .ref mx, .ref mh, .ref mg, .ref mc, .ref mo, .ref mr, .ref mf, .long wp, .long wl, .int (nI ru), .int (nI sm), .ref mk, .ref ml]))]) (w1 := [(h0, .inr (6, [.int (nI 2), .int (nI mi), .int (nI me), .int (nI dp), .int (bI up), .int (nI dn), .ref ma, .ref mx, .ref mh, .ref mg, .ref mc, .ref mo, .ref mr, .ref mf, .long wp, .long wl, .int (nI ru), .int (nI sm), .ref mk, .ref ml]))]) (ws2 := [(h0, .inr (6, [.int (nI 2), .int (nI mi), .int (nI me), .int (nI dp), .int (bI up), .int (nI dn), .ref ma, .ref mx, .ref mh, .ref mg, .ref mc, .ref mo, .ref mr, .ref mf, .long wp, .long wl, .int (nI ru), .int (nI sm), .ref mk, .ref ml]))]) hP hD hS hA [0] rfl rfl rfl (va_runV (As := [.int (nI 2)]) (rest := []) ⟨hx, hb, hml, hown, hts⟩ (c_X6_goesWell_no l D cI cJ cZ h0 thr mi me dp up dn ma mx mh mg mc mo mr mf mk ml wp wl ru sm 2 (by omega) (by omega) H.size) (cwV 1 hts gX6_drops_X6_goesWell rfl rfl rfl (by decide +kernel) ⟨Nat.le_of_ble_eq_true rfl, Nat.le_of_ble_eq_true rfl⟩) (pvV hT hP hD [0] rfl rfl 0 rfl rfl) rfl rfl hl.1 rfl (lv_room (Nat.le_of_ble_eq_true rfl)) dX6_drops_82 ⟨Nat.zero_le _, Nat.zero_le _⟩) (fun H locs hP hD hS => ?_)
  refine cb_ne (tgt := 90) hx hb dX6_drops_85 (by decide) (fun c_85 => absurd c_85 (by decide)) (fun c_85 => ?_)
  refine lv_iconst (v := nI 0) hx hb dX6_drops_88 (by decide) ?_
  exact fin_i hx hb hr hlocks hP hD hS (rfl) dX6_drops_89
set_option maxHeartbeats 4000000 in
set_option maxRecDepth 100000 in
theorem c_X6_drops_b3 (l : Launch) (D : va_G) (cI cJ cZ : ClassId) (h0 : Nat) (thr : Nat) (mi : Nat) (me : Nat) (dp : Nat) (up : Bool) (dn : Nat) (ma : Nat) (mx : Nat) (mh : Nat) (mg : Nat) (mc : Nat) (mo : Nat) (mr : Nat) (mf : Nat) (mk : Nat) (ml : Nat) (wp : Int64) (wl : Int64) (ru : Nat) (sm : Nat) (ki : Nat) (la : Nat) (si : Nat) (x3 : Int32) (hki : ki < 20) (hla : la < 10) (h1si : 1 ≤ si) (h2si : si ≤ 3) (hbad : x3.toInt < 1 ∨ 1000 < x3.toInt) (sz : Nat) : Met l yX6_drops wsX6_drops ({ frames := 2, cells := 0, slots := 0, locals := 42 } : Room) (va_Pc [.ref h0, .int (nI ki), .int (nI la), .int (nI si), .int x3] (mPre D cI cJ cZ [(h0, .inr (6, [.int (nI thr), .int (nI mi), .int (nI me), .int (nI dp), .int (bI up), .int (nI dn), .ref ma, .ref mx, .ref mh, .ref mg, .ref mc, .ref mo, .ref mr, .ref mf, .long wp, .long wl, .int (nI ru), .int (nI sm), .ref mk, .ref ml]))] sz)) (Qi9 D (va_A [(h0, .inr (6, [.int (nI thr), .int (nI mi), .int (nI me), .int (nI dp), .int (bI up), .int (nI dn), .ref ma, .ref mx, .ref mh, .ref mg, .ref mc, .ref mo, .ref mr, .ref mf, .long wp, .long wl, .int (nI ru), .int (nI sm), .ref mk, .ref ml]))] sz) [(h0, .inr (6, [.int (nI 2), .int (nI mi), .int (nI me), .int (nI dp), .int (bI up), .int (nI dn), .ref ma, .ref mx, .ref mh, .ref mg, .ref mc, .ref mo, .ref mr, .ref mf, .long wp, .long wl, .int (nI ru), .int (nI sm), .ref mk, .ref ml]))] (nI 0)) 0 0 (va_A [(h0, .inr (6, [.int (nI thr), .int (nI mi), .int (nI me), .int (nI dp), .int (bI up), .int (nI dn), .ref ma, .ref mx, .ref mh, .ref mg, .ref mc, .ref mo, .ref mr, .ref mf, .long wp, .long wl, .int (nI ru), .int (nI sm), .ref mk, .ref ml]))] sz) := by
  refine Met.ofW (cc := cX6_drops) (maxL := 8) (ret := (some .int)) (by decide) rfl ?_
  intro p e s m args below meth c s₁ B hml hv
  obtain ⟨hargs, hsz, hP, hT, hD0⟩ := hv
  have hx := B.exec
  have hb := B.bytes
  have hr := B.returns
  have hts := atoms_spec (ws := wsX6_drops) B.pre
  have hown : s.vm.findClass RX6 = some m.cls := findClass_of_methodNamed B.named
  have hlocks := B.notSynchronized
  subst hsz
  have hK := hT.1
  have hD := hD0.self (sz := s.heap.size)
  generalize hAe : va_A [(h0, .inr (6, [.int (nI thr), .int (nI mi), .int (nI me), .int (nI dp), .int (bI up), .int (nI dn), .ref ma, .ref mx, .ref mh, .ref mg, .ref mc, .ref mo, .ref mr, .ref mf, .long wp, .long wl, .int (nI ru), .int (nI sm), .ref mk, .ref ml]))] s.heap.size = A at hD ⊢
  have hA : ∀ q : Nat, s.heap.size ≤ q → A q := fun q h => by rw [← hAe]; exact Or.inr h
  have hS : va_S A s.heap s.heap [] := va_S.rf
  obtain ⟨H, hHe⟩ : ∃ H : Heap, H = s.heap := ⟨_, rfl⟩
  have hS : va_S A s.heap H [] := by rw [hHe]; exact va_S.rf
  rw [← hHe] at hP
  suffices K0 : W p l e (headSpec wsX6_drops ({ frames := 2, cells := 0, slots := 0, locals := 42 } : Room)).room s m args below meth c H [] 0 0 (MQ below (Qi9 D A [(h0, .inr (6, [.int (nI 2), .int (nI mi), .int (nI me), .int (nI dp), .int (bI up), .int (nI dn), .ref ma, .ref mx, .ref mh, .ref mg, .ref mc, .ref mo, .ref mr, .ref mf, .long wp, .long wl, .int (nI ru), .int (nI sm), .ref mk, .ref ml]))] (nI 0)) args s 0 0 A) (entryFrame m args 8) by rw [hHe] at K0; exact K0
  refine W.eq (g2 := entryFrame m ([.ref h0, .int (nI ki), .int (nI la), .int (nI si), .int x3] : List Value).toArray 8) (by rw [hargs]) ?_
  have hl := lv_entry ([.ref h0, .int (nI ki), .int (nI la), .int (nI si), .int x3]) (n := 8) (Nat.le_of_ble_eq_true rfl)
  rw [lg_entry_eq]
  generalize (lg_sl ([.ref h0, .int (nI ki), .int (nI la), .int (nI si), .int x3]) ++ List.replicate (8 - (lg_sl ([.ref h0, .int (nI ki), .int (nI la), .int (nI si), .int x3])).length) Slot.unset).toArray = ls at hl ⊢
  have hl : lv_has ls 8 [(0, .ref h0), (1, .int (nI ki)), (2, .int (nI la)), (3, .int (nI si)), (4, .int x3)] := hl
  generalize ([] : List Loc) = locs at hS ⊢
  refine lv_iload_n hx hb dX6_drops_0 rfl (lv_at hl 1 rfl) ?_
  refine cr_i (wc := []) (w1 := []) (ws2 := [(h0, .inr (6, [.int (nI thr), .int (nI mi), .int (nI me), .int (nI dp), .int (bI up), .int (nI dn), .ref ma, .ref mx, .ref mh, .ref mg, .ref mc, .ref mo, .ref mr, .ref mf, .long wp, .long wl, .int (nI ru), .int (nI sm), .ref mk, .ref ml]))]) hP hD hS hA [] rfl rfl rfl (va_runS (As := [.int (nI ki)]) (rest := []) ⟨hx, hb, hml, hown, hts⟩ (c_X6_isPlace_T l D cI cJ cZ ki (by omega) H.size) (va_cwS 1 hts gX6_drops_X6_isPlace rfl rfl rfl (by decide +kernel) ⟨Nat.le_of_ble_eq_true rfl, Nat.le_of_ble_eq_true rfl⟩) (pvS hT hP hD [] rfl rfl) rfl rfl hl.1 rfl (lv_room (Nat.le_of_ble_eq_true rfl)) dX6_drops_1 ⟨Nat.zero_le _, Nat.zero_le _⟩) (fun H locs hP hD hS => ?_)
  refine cb_eq (tgt := 18) hx hb dX6_drops_4 (by decide) (fun c_4 => absurd c_4 (by decide)) (fun c_4 => ?_)
  refine lv_iload_n hx hb dX6_drops_7 rfl (lv_at hl 2 rfl) ?_
  refine cr_i (wc := []) (w1 := []) (ws2 := [(h0, .inr (6, [.int (nI thr), .int (nI mi), .int (nI me), .int (nI dp), .int (bI up), .int (nI dn), .ref ma, .ref mx, .ref mh, .ref mg, .ref mc, .ref mo, .ref mr, .ref mf, .long wp, .long wl, .int (nI ru), .int (nI sm), .ref mk, .ref ml]))]) hP hD hS hA [] rfl rfl rfl (va_runS (As := [.int (nI la)]) (rest := []) ⟨hx, hb, hml, hown, hts⟩ (c_X6_isLayer_T l D cI cJ cZ la (by omega) H.size) (va_cwS 1 hts gX6_drops_X6_isLayer rfl rfl rfl (by decide +kernel) ⟨Nat.le_of_ble_eq_true rfl, Nat.le_of_ble_eq_true rfl⟩) (pvS hT hP hD [] rfl rfl) rfl rfl hl.1 rfl (lv_room (Nat.le_of_ble_eq_true rfl)) dX6_drops_8 ⟨Nat.zero_le _, Nat.zero_le _⟩) (fun H locs hP hD hS => ?_)
  refine cb_eq (tgt := 18) hx hb dX6_drops_11 (by decide) (fun c_11 => absurd c_11 (by decide)) (fun c_11 => ?_)
  refine lv_iconst (v := nI 1) hx hb dX6_drops_14 (by decide) ?_
  refine lv_goto (tgt := 19) hx hb dX6_drops_15 (by decide) ?_
  refine lv_istore (lv' := [(5, .int (nI 1)), (0, .ref h0), (1, .int (nI ki)), (2, .int (nI la)), (3, .int (nI si)), (4, .int x3)]) hx hb dX6_drops_19 hl (by decide) rfl (fun ls hl => ?_)
  refine lv_iload_n hx hb dX6_drops_21 rfl (lv_at hl 4 rfl) ?_
  refine lv_iconst (v := nI 1) hx hb dX6_drops_22 (by decide) ?_
  refine lv_iconst (v := nI 3) hx hb dX6_drops_23 (by decide) ?_
  refine cr_i (wc := []) (w1 := []) (ws2 := [(h0, .inr (6, [.int (nI thr), .int (nI mi), .int (nI me), .int (nI dp), .int (bI up), .int (nI dn), .ref ma, .ref mx, .ref mh, .ref mg, .ref mc, .ref mo, .ref mr, .ref mf, .long wp, .long wl, .int (nI ru), .int (nI sm), .ref mk, .ref ml]))]) hP hD hS hA [] rfl rfl rfl (va_runS (As := [.int (nI si), .int (nI 1), .int (nI 3)]) (rest := []) ⟨hx, hb, hml, hown, hts⟩ (c_X6_in_T l D cI cJ cZ si 1 3 (by omega) (by omega) (by omega) H.size) (va_cwS 3 hts gX6_drops_X6_in rfl rfl rfl (by decide +kernel) ⟨Nat.le_of_ble_eq_true rfl, Nat.le_of_ble_eq_true rfl⟩) (pvS hT hP hD [] rfl rfl) rfl rfl hl.1 rfl (lv_room (Nat.le_of_ble_eq_true rfl)) dX6_drops_24 ⟨Nat.zero_le _, Nat.zero_le _⟩) (fun H locs hP hD hS => ?_)
  refine cb_eq (tgt := 46) hx hb dX6_drops_27 (by decide) (fun c_27 => absurd c_27 (by decide)) (fun c_27 => ?_)
  refine lv_iload hx hb dX6_drops_30 (lv_at hl 5 rfl) ?_
  refine lv_iconst (v := nI 1) hx hb dX6_drops_32 (by decide) ?_
  refine lv_sipush (v := nI 1000) hx hb dX6_drops_33 (by decide) ?_
  refine cr_i (wc := []) (w1 := []) (ws2 := [(h0, .inr (6, [.int (nI thr), .int (nI mi), .int (nI me), .int (nI dp), .int (bI up), .int (nI dn), .ref ma, .ref mx, .ref mh, .ref mg, .ref mc, .ref mo, .ref mr, .ref mf, .long wp, .long wl, .int (nI ru), .int (nI sm), .ref mk, .ref ml]))]) hP hD hS hA [] rfl rfl rfl (va_runS (As := [.int x3, .int (nI 1), .int (nI 1000)]) (rest := []) ⟨hx, hb, hml, hown, hts⟩ (c_X6_in_F l D cI cJ cZ x3 1 1000 (by omega) (by omega) (by omega) H.size) (va_cwS 3 hts gX6_drops_X6_in rfl rfl rfl (by decide +kernel) ⟨Nat.le_of_ble_eq_true rfl, Nat.le_of_ble_eq_true rfl⟩) (pvS hT hP hD [] rfl rfl) rfl rfl hl.1 rfl (lv_room (Nat.le_of_ble_eq_true rfl)) dX6_drops_36 ⟨Nat.zero_le _, Nat.zero_le _⟩) (fun H locs hP hD hS => ?_)
  refine cb_eq (tgt := 46) hx hb dX6_drops_39 (by decide) (fun c_39 => ?_) (fun c_39 => absurd c_39 (by decide))
  refine lv_iconst (v := nI 0) hx hb dX6_drops_46 (by decide) ?_
  refine lv_istore (lv' := [(6, .int (nI 0)), (5, .int (nI 1)), (0, .ref h0), (1, .int (nI ki)), (2, .int (nI la)), (3, .int (nI si)), (4, .int x3)]) hx hb dX6_drops_47 hl (by decide) rfl (fun ls hl => ?_)
  refine lv_aload_n hx hb dX6_drops_49 rfl (lv_at hl 2 rfl) ?_
  refine lv_iload hx hb dX6_drops_50 (lv_at hl 1 rfl) ?_
  refine c0_ne (tgt := 59) hx hb dX6_drops_52 (by decide) (nT (by omega)) (fun c_52 => ?_) (fun c_52 => by omega)
  refine lv_iload hx hb dX6_drops_59 (lv_at hl 0 rfl) ?_
  refine c0_ne (tgt := 68) hx hb dX6_drops_61 (by decide) (nT (by omega)) (fun c_61 => by omega) (fun c_61 => ?_)
  refine lv_iconst (v := nI 2) hx hb dX6_drops_64 (by decide) ?_
  refine lv_goto (tgt := 82) hx hb dX6_drops_65 (by decide) ?_
  refine cr_i (wc := [(h0, .inr (6, [.int (nI thr), .int (nI mi), .int (nI me), .int (nI dp), .int (bI up), .int (nI dn), .ref ma, .ref mx, .ref mh, .ref mg, .ref mc, .ref mo, .ref mr, .ref mf, .long wp, .long wl, .int (nI ru), .int (nI sm), .ref mk, .ref ml]))]) (w1 := [(h0, .inr (6, [.int (nI 2), .int (nI mi), .int (nI me), .int (nI dp), .int (bI up), .int (nI dn), .ref ma, .ref mx, .ref mh, .ref mg, .ref mc, .ref mo, .ref mr, .ref mf, .long wp, .long wl, .int (nI ru), .int (nI sm), .ref mk, .ref ml]))]) (ws2 := [(h0, .inr (6, [.int (nI 2), .int (nI mi), .int (nI me), .int (nI dp), .int (bI up), .int (nI dn), .ref ma, .ref mx, .ref mh, .ref mg, .ref mc, .ref mo, .ref mr, .ref mf, .long wp, .long wl, .int (nI ru), .int (nI sm), .ref mk, .ref ml]))]) hP hD hS hA [0] rfl rfl rfl (va_runV (As := [.int (nI 2)]) (rest := []) ⟨hx, hb, hml, hown, hts⟩ (c_X6_goesWell_no l D cI cJ cZ h0 thr mi me dp up dn ma mx mh mg mc mo mr mf mk ml wp wl ru sm 2 (by omega) (by omega) H.size) (cwV 1 hts gX6_drops_X6_goesWell rfl rfl rfl (by decide +kernel) ⟨Nat.le_of_ble_eq_true rfl, Nat.le_of_ble_eq_true rfl⟩) (pvV hT hP hD [0] rfl rfl 0 rfl rfl) rfl rfl hl.1 rfl (lv_room (Nat.le_of_ble_eq_true rfl)) dX6_drops_82 ⟨Nat.zero_le _, Nat.zero_le _⟩) (fun H locs hP hD hS => ?_)
  refine cb_ne (tgt := 90) hx hb dX6_drops_85 (by decide) (fun c_85 => absurd c_85 (by decide)) (fun c_85 => ?_)
  refine lv_iconst (v := nI 0) hx hb dX6_drops_88 (by decide) ?_
  exact fin_i hx hb hr hlocks hP hD hS (rfl) dX6_drops_89
set_option maxHeartbeats 4000000 in
set_option maxRecDepth 100000 in
theorem c_X6_drops_b4 (l : Launch) (D : va_G) (cI cJ cZ : ClassId) (h0 : Nat) (thr : Nat) (mi : Nat) (me : Nat) (dp : Nat) (up : Bool) (dn : Nat) (ma : Nat) (mx : Nat) (mh : Nat) (mg : Nat) (mc : Nat) (mo : Nat) (mr : Nat) (mf : Nat) (mk : Nat) (ml : Nat) (wp : Int64) (wl : Int64) (ru : Nat) (sm : Nat) (ki : Nat) (la : Nat) (si : Nat) (mn : Nat) (hki : ki < 20) (hla : la < 10) (h1si : 1 ≤ si) (h2si : si ≤ 3) (h1mn : 1 ≤ mn) (h2mn : mn ≤ 1000) (hdn : dn = 100) (sz : Nat) : Met l yX6_drops wsX6_drops ({ frames := 2, cells := 0, slots := 0, locals := 42 } : Room) (va_Pc [.ref h0, .int (nI ki), .int (nI la), .int (nI si), .int (nI mn)] (mPre D cI cJ cZ [(h0, .inr (6, [.int (nI thr), .int (nI mi), .int (nI me), .int (nI dp), .int (bI up), .int (nI dn), .ref ma, .ref mx, .ref mh, .ref mg, .ref mc, .ref mo, .ref mr, .ref mf, .long wp, .long wl, .int (nI ru), .int (nI sm), .ref mk, .ref ml]))] sz)) (Qi9 D (va_A [(h0, .inr (6, [.int (nI thr), .int (nI mi), .int (nI me), .int (nI dp), .int (bI up), .int (nI dn), .ref ma, .ref mx, .ref mh, .ref mg, .ref mc, .ref mo, .ref mr, .ref mf, .long wp, .long wl, .int (nI ru), .int (nI sm), .ref mk, .ref ml]))] sz) [(h0, .inr (6, [.int (nI 3), .int (nI mi), .int (nI me), .int (nI dp), .int (bI up), .int (nI dn), .ref ma, .ref mx, .ref mh, .ref mg, .ref mc, .ref mo, .ref mr, .ref mf, .long wp, .long wl, .int (nI ru), .int (nI sm), .ref mk, .ref ml]))] (nI 0)) 0 0 (va_A [(h0, .inr (6, [.int (nI thr), .int (nI mi), .int (nI me), .int (nI dp), .int (bI up), .int (nI dn), .ref ma, .ref mx, .ref mh, .ref mg, .ref mc, .ref mo, .ref mr, .ref mf, .long wp, .long wl, .int (nI ru), .int (nI sm), .ref mk, .ref ml]))] sz) := by
  refine Met.ofW (cc := cX6_drops) (maxL := 8) (ret := (some .int)) (by decide) rfl ?_
  intro p e s m args below meth c s₁ B hml hv
  obtain ⟨hargs, hsz, hP, hT, hD0⟩ := hv
  have hx := B.exec
  have hb := B.bytes
  have hr := B.returns
  have hts := atoms_spec (ws := wsX6_drops) B.pre
  have hown : s.vm.findClass RX6 = some m.cls := findClass_of_methodNamed B.named
  have hlocks := B.notSynchronized
  subst hsz
  have hK := hT.1
  have hD := hD0.self (sz := s.heap.size)
  generalize hAe : va_A [(h0, .inr (6, [.int (nI thr), .int (nI mi), .int (nI me), .int (nI dp), .int (bI up), .int (nI dn), .ref ma, .ref mx, .ref mh, .ref mg, .ref mc, .ref mo, .ref mr, .ref mf, .long wp, .long wl, .int (nI ru), .int (nI sm), .ref mk, .ref ml]))] s.heap.size = A at hD ⊢
  have hA : ∀ q : Nat, s.heap.size ≤ q → A q := fun q h => by rw [← hAe]; exact Or.inr h
  have hS : va_S A s.heap s.heap [] := va_S.rf
  obtain ⟨H, hHe⟩ : ∃ H : Heap, H = s.heap := ⟨_, rfl⟩
  have hS : va_S A s.heap H [] := by rw [hHe]; exact va_S.rf
  rw [← hHe] at hP
  suffices K0 : W p l e (headSpec wsX6_drops ({ frames := 2, cells := 0, slots := 0, locals := 42 } : Room)).room s m args below meth c H [] 0 0 (MQ below (Qi9 D A [(h0, .inr (6, [.int (nI 3), .int (nI mi), .int (nI me), .int (nI dp), .int (bI up), .int (nI dn), .ref ma, .ref mx, .ref mh, .ref mg, .ref mc, .ref mo, .ref mr, .ref mf, .long wp, .long wl, .int (nI ru), .int (nI sm), .ref mk, .ref ml]))] (nI 0)) args s 0 0 A) (entryFrame m args 8) by rw [hHe] at K0; exact K0
  refine W.eq (g2 := entryFrame m ([.ref h0, .int (nI ki), .int (nI la), .int (nI si), .int (nI mn)] : List Value).toArray 8) (by rw [hargs]) ?_
  have hl := lv_entry ([.ref h0, .int (nI ki), .int (nI la), .int (nI si), .int (nI mn)]) (n := 8) (Nat.le_of_ble_eq_true rfl)
  rw [lg_entry_eq]
  generalize (lg_sl ([.ref h0, .int (nI ki), .int (nI la), .int (nI si), .int (nI mn)]) ++ List.replicate (8 - (lg_sl ([.ref h0, .int (nI ki), .int (nI la), .int (nI si), .int (nI mn)])).length) Slot.unset).toArray = ls at hl ⊢
  have hl : lv_has ls 8 [(0, .ref h0), (1, .int (nI ki)), (2, .int (nI la)), (3, .int (nI si)), (4, .int (nI mn))] := hl
  generalize ([] : List Loc) = locs at hS ⊢
  have hinX6 : ∀ w ∈ wsX60, w ∈ wsX6_drops := by decide +kernel
  have hf63 := hts (.fieldLink RX6 63 "BrightbandModel" "done" "I") (by decide +kernel)
  refine lv_iload_n hx hb dX6_drops_0 rfl (lv_at hl 1 rfl) ?_
  refine cr_i (wc := []) (w1 := []) (ws2 := [(h0, .inr (6, [.int (nI thr), .int (nI mi), .int (nI me), .int (nI dp), .int (bI up), .int (nI dn), .ref ma, .ref mx, .ref mh, .ref mg, .ref mc, .ref mo, .ref mr, .ref mf, .long wp, .long wl, .int (nI ru), .int (nI sm), .ref mk, .ref ml]))]) hP hD hS hA [] rfl rfl rfl (va_runS (As := [.int (nI ki)]) (rest := []) ⟨hx, hb, hml, hown, hts⟩ (c_X6_isPlace_T l D cI cJ cZ ki (by omega) H.size) (va_cwS 1 hts gX6_drops_X6_isPlace rfl rfl rfl (by decide +kernel) ⟨Nat.le_of_ble_eq_true rfl, Nat.le_of_ble_eq_true rfl⟩) (pvS hT hP hD [] rfl rfl) rfl rfl hl.1 rfl (lv_room (Nat.le_of_ble_eq_true rfl)) dX6_drops_1 ⟨Nat.zero_le _, Nat.zero_le _⟩) (fun H locs hP hD hS => ?_)
  refine cb_eq (tgt := 18) hx hb dX6_drops_4 (by decide) (fun c_4 => absurd c_4 (by decide)) (fun c_4 => ?_)
  refine lv_iload_n hx hb dX6_drops_7 rfl (lv_at hl 2 rfl) ?_
  refine cr_i (wc := []) (w1 := []) (ws2 := [(h0, .inr (6, [.int (nI thr), .int (nI mi), .int (nI me), .int (nI dp), .int (bI up), .int (nI dn), .ref ma, .ref mx, .ref mh, .ref mg, .ref mc, .ref mo, .ref mr, .ref mf, .long wp, .long wl, .int (nI ru), .int (nI sm), .ref mk, .ref ml]))]) hP hD hS hA [] rfl rfl rfl (va_runS (As := [.int (nI la)]) (rest := []) ⟨hx, hb, hml, hown, hts⟩ (c_X6_isLayer_T l D cI cJ cZ la (by omega) H.size) (va_cwS 1 hts gX6_drops_X6_isLayer rfl rfl rfl (by decide +kernel) ⟨Nat.le_of_ble_eq_true rfl, Nat.le_of_ble_eq_true rfl⟩) (pvS hT hP hD [] rfl rfl) rfl rfl hl.1 rfl (lv_room (Nat.le_of_ble_eq_true rfl)) dX6_drops_8 ⟨Nat.zero_le _, Nat.zero_le _⟩) (fun H locs hP hD hS => ?_)
  refine cb_eq (tgt := 18) hx hb dX6_drops_11 (by decide) (fun c_11 => absurd c_11 (by decide)) (fun c_11 => ?_)
  refine lv_iconst (v := nI 1) hx hb dX6_drops_14 (by decide) ?_
  refine lv_goto (tgt := 19) hx hb dX6_drops_15 (by decide) ?_
  refine lv_istore (lv' := [(5, .int (nI 1)), (0, .ref h0), (1, .int (nI ki)), (2, .int (nI la)), (3, .int (nI si)), (4, .int (nI mn))]) hx hb dX6_drops_19 hl (by decide) rfl (fun ls hl => ?_)
  refine lv_iload_n hx hb dX6_drops_21 rfl (lv_at hl 4 rfl) ?_
  refine lv_iconst (v := nI 1) hx hb dX6_drops_22 (by decide) ?_
  refine lv_iconst (v := nI 3) hx hb dX6_drops_23 (by decide) ?_
  refine cr_i (wc := []) (w1 := []) (ws2 := [(h0, .inr (6, [.int (nI thr), .int (nI mi), .int (nI me), .int (nI dp), .int (bI up), .int (nI dn), .ref ma, .ref mx, .ref mh, .ref mg, .ref mc, .ref mo, .ref mr, .ref mf, .long wp, .long wl, .int (nI ru), .int (nI sm), .ref mk, .ref ml]))]) hP hD hS hA [] rfl rfl rfl (va_runS (As := [.int (nI si), .int (nI 1), .int (nI 3)]) (rest := []) ⟨hx, hb, hml, hown, hts⟩ (c_X6_in_T l D cI cJ cZ si 1 3 (by omega) (by omega) (by omega) H.size) (va_cwS 3 hts gX6_drops_X6_in rfl rfl rfl (by decide +kernel) ⟨Nat.le_of_ble_eq_true rfl, Nat.le_of_ble_eq_true rfl⟩) (pvS hT hP hD [] rfl rfl) rfl rfl hl.1 rfl (lv_room (Nat.le_of_ble_eq_true rfl)) dX6_drops_24 ⟨Nat.zero_le _, Nat.zero_le _⟩) (fun H locs hP hD hS => ?_)
  refine cb_eq (tgt := 46) hx hb dX6_drops_27 (by decide) (fun c_27 => absurd c_27 (by decide)) (fun c_27 => ?_)
  refine lv_iload hx hb dX6_drops_30 (lv_at hl 5 rfl) ?_
  refine lv_iconst (v := nI 1) hx hb dX6_drops_32 (by decide) ?_
  refine lv_sipush (v := nI 1000) hx hb dX6_drops_33 (by decide) ?_
  refine cr_i (wc := []) (w1 := []) (ws2 := [(h0, .inr (6, [.int (nI thr), .int (nI mi), .int (nI me), .int (nI dp), .int (bI up), .int (nI dn), .ref ma, .ref mx, .ref mh, .ref mg, .ref mc, .ref mo, .ref mr, .ref mf, .long wp, .long wl, .int (nI ru), .int (nI sm), .ref mk, .ref ml]))]) hP hD hS hA [] rfl rfl rfl (va_runS (As := [.int (nI mn), .int (nI 1), .int (nI 1000)]) (rest := []) ⟨hx, hb, hml, hown, hts⟩ (c_X6_in_T l D cI cJ cZ mn 1 1000 (by omega) (by omega) (by omega) H.size) (va_cwS 3 hts gX6_drops_X6_in rfl rfl rfl (by decide +kernel) ⟨Nat.le_of_ble_eq_true rfl, Nat.le_of_ble_eq_true rfl⟩) (pvS hT hP hD [] rfl rfl) rfl rfl hl.1 rfl (lv_room (Nat.le_of_ble_eq_true rfl)) dX6_drops_36 ⟨Nat.zero_le _, Nat.zero_le _⟩) (fun H locs hP hD hS => ?_)
  refine cb_eq (tgt := 46) hx hb dX6_drops_39 (by decide) (fun c_39 => absurd c_39 (by decide)) (fun c_39 => ?_)
  refine lv_iconst (v := nI 1) hx hb dX6_drops_42 (by decide) ?_
  refine lv_goto (tgt := 47) hx hb dX6_drops_43 (by decide) ?_
  refine lv_istore (lv' := [(6, .int (nI 1)), (5, .int (nI 1)), (0, .ref h0), (1, .int (nI ki)), (2, .int (nI la)), (3, .int (nI si)), (4, .int (nI mn))]) hx hb dX6_drops_47 hl (by decide) rfl (fun ls hl => ?_)
  refine lv_aload_n hx hb dX6_drops_49 rfl (lv_at hl 2 rfl) ?_
  refine lv_iload hx hb dX6_drops_50 (lv_at hl 1 rfl) ?_
  refine c0_ne (tgt := 59) hx hb dX6_drops_52 (by decide) (nT (by omega)) (fun c_52 => ?_) (fun c_52 => by omega)
  refine lv_iload hx hb dX6_drops_59 (lv_at hl 0 rfl) ?_
  refine c0_ne (tgt := 68) hx hb dX6_drops_61 (by decide) (nT (by omega)) (fun c_61 => ?_) (fun c_61 => by omega)
  refine lv_aload_n hx hb dX6_drops_68 rfl (lv_at hl 2 rfl) ?_
  refine va_get (D := D) (ci := 6) (v := .int (nI dn)) (C := RX6) (T := TX6) (N := 20) hx hb hts hinX6 hown hK hP 0 rfl rfl 5 (by decide) hf63 (fun _ h9 => h9) rfl dX6_drops_69 ?_
  refine lv_bipush (v := nI 100) hx hb dX6_drops_72 (by decide) ?_
  refine ci_ne (tgt := 81) hx hb dX6_drops_74 (by decide) (nT (by omega)) (nT (by omega)) (fun c_74 => by omega) (fun c_74 => ?_)
  refine lv_iconst (v := nI 3) hx hb dX6_drops_77 (by decide) ?_
  refine lv_goto (tgt := 82) hx hb dX6_drops_78 (by decide) ?_
  refine cr_i (wc := [(h0, .inr (6, [.int (nI thr), .int (nI mi), .int (nI me), .int (nI dp), .int (bI up), .int (nI dn), .ref ma, .ref mx, .ref mh, .ref mg, .ref mc, .ref mo, .ref mr, .ref mf, .long wp, .long wl, .int (nI ru), .int (nI sm), .ref mk, .ref ml]))]) (w1 := [(h0, .inr (6, [.int (nI 3), .int (nI mi), .int (nI me), .int (nI dp), .int (bI up), .int (nI dn), .ref ma, .ref mx, .ref mh, .ref mg, .ref mc, .ref mo, .ref mr, .ref mf, .long wp, .long wl, .int (nI ru), .int (nI sm), .ref mk, .ref ml]))]) (ws2 := [(h0, .inr (6, [.int (nI 3), .int (nI mi), .int (nI me), .int (nI dp), .int (bI up), .int (nI dn), .ref ma, .ref mx, .ref mh, .ref mg, .ref mc, .ref mo, .ref mr, .ref mf, .long wp, .long wl, .int (nI ru), .int (nI sm), .ref mk, .ref ml]))]) hP hD hS hA [0] rfl rfl rfl (va_runV (As := [.int (nI 3)]) (rest := []) ⟨hx, hb, hml, hown, hts⟩ (c_X6_goesWell_no l D cI cJ cZ h0 thr mi me dp up dn ma mx mh mg mc mo mr mf mk ml wp wl ru sm 3 (by omega) (by omega) H.size) (cwV 1 hts gX6_drops_X6_goesWell rfl rfl rfl (by decide +kernel) ⟨Nat.le_of_ble_eq_true rfl, Nat.le_of_ble_eq_true rfl⟩) (pvV hT hP hD [0] rfl rfl 0 rfl rfl) rfl rfl hl.1 rfl (lv_room (Nat.le_of_ble_eq_true rfl)) dX6_drops_82 ⟨Nat.zero_le _, Nat.zero_le _⟩) (fun H locs hP hD hS => ?_)
  refine cb_ne (tgt := 90) hx hb dX6_drops_85 (by decide) (fun c_85 => absurd c_85 (by decide)) (fun c_85 => ?_)
  refine lv_iconst (v := nI 0) hx hb dX6_drops_88 (by decide) ?_
  exact fin_i hx hb hr hlocks hP hD hS (rfl) dX6_drops_89
set_option maxHeartbeats 4000000 in
set_option maxRecDepth 100000 in
theorem c_X6_melt_b0 (l : Launch) (D : va_G) (cI cJ cZ : ClassId) (h0 : Nat) (thr : Nat) (mi : Nat) (me : Nat) (dp : Nat) (up : Bool) (dn : Nat) (ma : Nat) (mx : Nat) (mh : Nat) (mg : Nat) (mc : Nat) (mo : Nat) (mr : Nat) (mf : Nat) (mk : Nat) (ml : Nat) (wp : Int64) (wl : Int64) (ru : Nat) (sm : Nat) (x0 : Int32) (hbad : x0.toInt < 0 ∨ 10 ≤ x0.toInt) (sz : Nat) : Met l yX6_melt wsX6_melt ({ frames := 2, cells := 0, slots := 0, locals := 42 } : Room) (va_Pc [.ref h0, .int x0] (mPre D cI cJ cZ [(h0, .inr (6, [.int (nI thr), .int (nI mi), .int (nI me), .int (nI dp), .int (bI up), .int (nI dn), .ref ma, .ref mx, .ref mh, .ref mg, .ref mc, .ref mo, .ref mr, .ref mf, .long wp, .long wl, .int (nI ru), .int (nI sm), .ref mk, .ref ml]))] sz)) (Qi9 D (va_A [(h0, .inr (6, [.int (nI thr), .int (nI mi), .int (nI me), .int (nI dp), .int (bI up), .int (nI dn), .ref ma, .ref mx, .ref mh, .ref mg, .ref mc, .ref mo, .ref mr, .ref mf, .long wp, .long wl, .int (nI ru), .int (nI sm), .ref mk, .ref ml]))] sz) [(h0, .inr (6, [.int (nI 1), .int (nI mi), .int (nI me), .int (nI dp), .int (bI up), .int (nI dn), .ref ma, .ref mx, .ref mh, .ref mg, .ref mc, .ref mo, .ref mr, .ref mf, .long wp, .long wl, .int (nI ru), .int (nI sm), .ref mk, .ref ml]))] (nI 0)) 0 0 (va_A [(h0, .inr (6, [.int (nI thr), .int (nI mi), .int (nI me), .int (nI dp), .int (bI up), .int (nI dn), .ref ma, .ref mx, .ref mh, .ref mg, .ref mc, .ref mo, .ref mr, .ref mf, .long wp, .long wl, .int (nI ru), .int (nI sm), .ref mk, .ref ml]))] sz) := by
  refine Met.ofW (cc := cX6_melt) (maxL := 3) (ret := (some .int)) (by decide) rfl ?_
  intro p e s m args below meth c s₁ B hml hv
  obtain ⟨hargs, hsz, hP, hT, hD0⟩ := hv
  have hx := B.exec
  have hb := B.bytes
  have hr := B.returns
  have hts := atoms_spec (ws := wsX6_melt) B.pre
  have hown : s.vm.findClass RX6 = some m.cls := findClass_of_methodNamed B.named
  have hlocks := B.notSynchronized
  subst hsz
  have hK := hT.1
  have hD := hD0.self (sz := s.heap.size)
  generalize hAe : va_A [(h0, .inr (6, [.int (nI thr), .int (nI mi), .int (nI me), .int (nI dp), .int (bI up), .int (nI dn), .ref ma, .ref mx, .ref mh, .ref mg, .ref mc, .ref mo, .ref mr, .ref mf, .long wp, .long wl, .int (nI ru), .int (nI sm), .ref mk, .ref ml]))] s.heap.size = A at hD ⊢
  have hA : ∀ q : Nat, s.heap.size ≤ q → A q := fun q h => by rw [← hAe]; exact Or.inr h
  have hS : va_S A s.heap s.heap [] := va_S.rf
  obtain ⟨H, hHe⟩ : ∃ H : Heap, H = s.heap := ⟨_, rfl⟩
  have hS : va_S A s.heap H [] := by rw [hHe]; exact va_S.rf
  rw [← hHe] at hP
  suffices K0 : W p l e (headSpec wsX6_melt ({ frames := 2, cells := 0, slots := 0, locals := 42 } : Room)).room s m args below meth c H [] 0 0 (MQ below (Qi9 D A [(h0, .inr (6, [.int (nI 1), .int (nI mi), .int (nI me), .int (nI dp), .int (bI up), .int (nI dn), .ref ma, .ref mx, .ref mh, .ref mg, .ref mc, .ref mo, .ref mr, .ref mf, .long wp, .long wl, .int (nI ru), .int (nI sm), .ref mk, .ref ml]))] (nI 0)) args s 0 0 A) (entryFrame m args 3) by rw [hHe] at K0; exact K0
  refine W.eq (g2 := entryFrame m ([.ref h0, .int x0] : List Value).toArray 3) (by rw [hargs]) ?_
  have hl := lv_entry ([.ref h0, .int x0]) (n := 3) (Nat.le_of_ble_eq_true rfl)
  rw [lg_entry_eq]
  generalize (lg_sl ([.ref h0, .int x0]) ++ List.replicate (3 - (lg_sl ([.ref h0, .int x0])).length) Slot.unset).toArray = ls at hl ⊢
  have hl : lv_has ls 3 [(0, .ref h0), (1, .int x0)] := hl
  generalize ([] : List Loc) = locs at hS ⊢
  refine lv_aload_n hx hb dX6_melt_0 rfl (lv_at hl 0 rfl) ?_
  refine lv_iload_n hx hb dX6_melt_1 rfl (lv_at hl 1 rfl) ?_
  refine cr_i (wc := []) (w1 := []) (ws2 := [(h0, .inr (6, [.int (nI thr), .int (nI mi), .int (nI me), .int (nI dp), .int (bI up), .int (nI dn), .ref ma, .ref mx, .ref mh, .ref mg, .ref mc, .ref mo, .ref mr, .ref mf, .long wp, .long wl, .int (nI ru), .int (nI sm), .ref mk, .ref ml]))]) hP hD hS hA [] rfl rfl rfl (va_runS (As := [.int x0]) (rest := [.ref h0]) ⟨hx, hb, hml, hown, hts⟩ (c_X6_isLayer_F l D cI cJ cZ x0 (by omega) H.size) (va_cwS 1 hts gX6_melt_X6_isLayer rfl rfl rfl (by decide +kernel) ⟨Nat.le_of_ble_eq_true rfl, Nat.le_of_ble_eq_true rfl⟩) (pvS hT hP hD [] rfl rfl) rfl rfl hl.1 rfl (lv_room (Nat.le_of_ble_eq_true rfl)) dX6_melt_2 ⟨Nat.zero_le _, Nat.zero_le _⟩) (fun H locs hP hD hS => ?_)
  refine cb_eq (tgt := 12) hx hb dX6_melt_5 (by decide) (fun c_5 => ?_) (fun c_5 => absurd c_5 (by decide))
  refine lv_iconst (v := nI 1) hx hb dX6_melt_12 (by decide) ?_
  refine cr_i (wc := [(h0, .inr (6, [.int (nI thr), .int (nI mi), .int (nI me), .int (nI dp), .int (bI up), .int (nI dn), .ref ma, .ref mx, .ref mh, .ref mg, .ref mc, .ref mo, .ref mr, .ref mf, .long wp, .long wl, .int (nI ru), .int (nI sm), .ref mk, .ref ml]))]) (w1 := [(h0, .inr (6, [.int (nI 1), .int (nI mi), .int (nI me), .int (nI dp), .int (bI up), .int (nI dn), .ref ma, .ref mx, .ref mh, .ref mg, .ref mc, .ref mo, .ref mr, .ref mf, .long wp, .long wl, .int (nI ru), .int (nI sm), .ref mk, .ref ml]))]) (ws2 := [(h0, .inr (6, [.int (nI 1), .int (nI mi), .int (nI me), .int (nI dp), .int (bI up), .int (nI dn), .ref ma, .ref mx, .ref mh, .ref mg, .ref mc, .ref mo, .ref mr, .ref mf, .long wp, .long wl, .int (nI ru), .int (nI sm), .ref mk, .ref ml]))]) hP hD hS hA [0] rfl rfl rfl (va_runV (As := [.int (nI 1)]) (rest := []) ⟨hx, hb, hml, hown, hts⟩ (c_X6_goesWell_no l D cI cJ cZ h0 thr mi me dp up dn ma mx mh mg mc mo mr mf mk ml wp wl ru sm 1 (by omega) (by omega) H.size) (cwV 1 hts gX6_melt_X6_goesWell rfl rfl rfl (by decide +kernel) ⟨Nat.le_of_ble_eq_true rfl, Nat.le_of_ble_eq_true rfl⟩) (pvV hT hP hD [0] rfl rfl 0 rfl rfl) rfl rfl hl.1 rfl (lv_room (Nat.le_of_ble_eq_true rfl)) dX6_melt_13 ⟨Nat.zero_le _, Nat.zero_le _⟩) (fun H locs hP hD hS => ?_)
  refine cb_ne (tgt := 21) hx hb dX6_melt_16 (by decide) (fun c_16 => absurd c_16 (by decide)) (fun c_16 => ?_)
  refine lv_iconst (v := nI 0) hx hb dX6_melt_19 (by decide) ?_
  exact fin_i hx hb hr hlocks hP hD hS (rfl) dX6_melt_20
set_option maxHeartbeats 4000000 in
set_option maxRecDepth 100000 in
theorem c_X6_hill_b0 (l : Launch) (D : va_G) (cI cJ cZ : ClassId) (h0 : Nat) (thr : Nat) (mi : Nat) (me : Nat) (dp : Nat) (up : Bool) (dn : Nat) (ma : Nat) (mx : Nat) (mh : Nat) (mg : Nat) (mc : Nat) (mo : Nat) (mr : Nat) (mf : Nat) (mk : Nat) (ml : Nat) (wp : Int64) (wl : Int64) (ru : Nat) (sm : Nat) (x0 : Int32) (x1 : Int32) (hbad : x0.toInt < 0 ∨ 20 ≤ x0.toInt) (sz : Nat) : Met l yX6_hill wsX6_hill ({ frames := 2, cells := 0, slots := 0, locals := 42 } : Room) (va_Pc [.ref h0, .int x0, .int x1] (mPre D cI cJ cZ [(h0, .inr (6, [.int (nI thr), .int (nI mi), .int (nI me), .int (nI dp), .int (bI up), .int (nI dn), .ref ma, .ref mx, .ref mh, .ref mg, .ref mc, .ref mo, .ref mr, .ref mf, .long wp, .long wl, .int (nI ru), .int (nI sm), .ref mk, .ref ml]))] sz)) (Qi9 D (va_A [(h0, .inr (6, [.int (nI thr), .int (nI mi), .int (nI me), .int (nI dp), .int (bI up), .int (nI dn), .ref ma, .ref mx, .ref mh, .ref mg, .ref mc, .ref mo, .ref mr, .ref mf, .long wp, .long wl, .int (nI ru), .int (nI sm), .ref mk, .ref ml]))] sz) [(h0, .inr (6, [.int (nI 1), .int (nI mi), .int (nI me), .int (nI dp), .int (bI up), .int (nI dn), .ref ma, .ref mx, .ref mh, .ref mg, .ref mc, .ref mo, .ref mr, .ref mf, .long wp, .long wl, .int (nI ru), .int (nI sm), .ref mk, .ref ml]))] (nI 0)) 0 0 (va_A [(h0, .inr (6, [.int (nI thr), .int (nI mi), .int (nI me), .int (nI dp), .int (bI up), .int (nI dn), .ref ma, .ref mx, .ref mh, .ref mg, .ref mc, .ref mo, .ref mr, .ref mf, .long wp, .long wl, .int (nI ru), .int (nI sm), .ref mk, .ref ml]))] sz) := by
  refine Met.ofW (cc := cX6_hill) (maxL := 5) (ret := (some .int)) (by decide) rfl ?_
  intro p e s m args below meth c s₁ B hml hv
  obtain ⟨hargs, hsz, hP, hT, hD0⟩ := hv
  have hx := B.exec
  have hb := B.bytes
  have hr := B.returns
  have hts := atoms_spec (ws := wsX6_hill) B.pre
  have hown : s.vm.findClass RX6 = some m.cls := findClass_of_methodNamed B.named
  have hlocks := B.notSynchronized
  subst hsz
  have hK := hT.1
  have hD := hD0.self (sz := s.heap.size)
  generalize hAe : va_A [(h0, .inr (6, [.int (nI thr), .int (nI mi), .int (nI me), .int (nI dp), .int (bI up), .int (nI dn), .ref ma, .ref mx, .ref mh, .ref mg, .ref mc, .ref mo, .ref mr, .ref mf, .long wp, .long wl, .int (nI ru), .int (nI sm), .ref mk, .ref ml]))] s.heap.size = A at hD ⊢
  have hA : ∀ q : Nat, s.heap.size ≤ q → A q := fun q h => by rw [← hAe]; exact Or.inr h
  have hS : va_S A s.heap s.heap [] := va_S.rf
  obtain ⟨H, hHe⟩ : ∃ H : Heap, H = s.heap := ⟨_, rfl⟩
  have hS : va_S A s.heap H [] := by rw [hHe]; exact va_S.rf
  rw [← hHe] at hP
  suffices K0 : W p l e (headSpec wsX6_hill ({ frames := 2, cells := 0, slots := 0, locals := 42 } : Room)).room s m args below meth c H [] 0 0 (MQ below (Qi9 D A [(h0, .inr (6, [.int (nI 1), .int (nI mi), .int (nI me), .int (nI dp), .int (bI up), .int (nI dn), .ref ma, .ref mx, .ref mh, .ref mg, .ref mc, .ref mo, .ref mr, .ref mf, .long wp, .long wl, .int (nI ru), .int (nI sm), .ref mk, .ref ml]))] (nI 0)) args s 0 0 A) (entryFrame m args 5) by rw [hHe] at K0; exact K0
  refine W.eq (g2 := entryFrame m ([.ref h0, .int x0, .int x1] : List Value).toArray 5) (by rw [hargs]) ?_
  have hl := lv_entry ([.ref h0, .int x0, .int x1]) (n := 5) (Nat.le_of_ble_eq_true rfl)
  rw [lg_entry_eq]
  generalize (lg_sl ([.ref h0, .int x0, .int x1]) ++ List.replicate (5 - (lg_sl ([.ref h0, .int x0, .int x1])).length) Slot.unset).toArray = ls at hl ⊢
  have hl : lv_has ls 5 [(0, .ref h0), (1, .int x0), (2, .int x1)] := hl
  generalize ([] : List Loc) = locs at hS ⊢
  refine lv_iload_n hx hb dX6_hill_0 rfl (lv_at hl 1 rfl) ?_
  refine cr_i (wc := []) (w1 := []) (ws2 := [(h0, .inr (6, [.int (nI thr), .int (nI mi), .int (nI me), .int (nI dp), .int (bI up), .int (nI dn), .ref ma, .ref mx, .ref mh, .ref mg, .ref mc, .ref mo, .ref mr, .ref mf, .long wp, .long wl, .int (nI ru), .int (nI sm), .ref mk, .ref ml]))]) hP hD hS hA [] rfl rfl rfl (va_runS (As := [.int x0]) (rest := []) ⟨hx, hb, hml, hown, hts⟩ (c_X6_isPlace_F l D cI cJ cZ x0 (by omega) H.size) (va_cwS 1 hts gX6_hill_X6_isPlace rfl rfl rfl (by decide +kernel) ⟨Nat.le_of_ble_eq_true rfl, Nat.le_of_ble_eq_true rfl⟩) (pvS hT hP hD [] rfl rfl) rfl rfl hl.1 rfl (lv_room (Nat.le_of_ble_eq_true rfl)) dX6_hill_1 ⟨Nat.zero_le _, Nat.zero_le _⟩) (fun H locs hP hD hS => ?_)
  refine lv_istore_n (lv' := [(3, .int (bI false)), (0, .ref h0), (1, .int x0), (2, .int x1)]) hx hb dX6_hill_4 rfl hl (by decide) rfl (fun ls hl => ?_)
  refine lv_aload_n hx hb dX6_hill_5 rfl (lv_at hl 1 rfl) ?_
  refine lv_iload_n hx hb dX6_hill_6 rfl (lv_at hl 0 rfl) ?_
  refine cb_ne (tgt := 14) hx hb dX6_hill_7 (by decide) (fun c_7 => absurd c_7 (by decide)) (fun c_7 => ?_)
  refine lv_iconst (v := nI 1) hx hb dX6_hill_10 (by decide) ?_
  refine lv_goto (tgt := 29) hx hb dX6_hill_11 (by decide) ?_
  refine cr_i (wc := [(h0, .inr (6, [.int (nI thr), .int (nI mi), .int (nI me), .int (nI dp), .int (bI up), .int (nI dn), .ref ma, .ref mx, .ref mh, .ref mg, .ref mc, .ref mo, .ref mr, .ref mf, .long wp, .long wl, .int (nI ru), .int (nI sm), .ref mk, .ref ml]))]) (w1 := [(h0, .inr (6, [.int (nI 1), .int (nI mi), .int (nI me), .int (nI dp), .int (bI up), .int (nI dn), .ref ma, .ref mx, .ref mh, .ref mg, .ref mc, .ref mo, .ref mr, .ref mf, .long wp, .long wl, .int (nI ru), .int (nI sm), .ref mk, .ref ml]))]) (ws2 := [(h0, .inr (6, [.int (nI 1), .int (nI mi), .int (nI me), .int (nI dp), .int (bI up), .int (nI dn), .ref ma, .ref mx, .ref mh, .ref mg, .ref mc, .ref mo, .ref mr, .ref mf, .long wp, .long wl, .int (nI ru), .int (nI sm), .ref mk, .ref ml]))]) hP hD hS hA [0] rfl rfl rfl (va_runV (As := [.int (nI 1)]) (rest := []) ⟨hx, hb, hml, hown, hts⟩ (c_X6_goesWell_no l D cI cJ cZ h0 thr mi me dp up dn ma mx mh mg mc mo mr mf mk ml wp wl ru sm 1 (by omega) (by omega) H.size) (cwV 1 hts gX6_hill_X6_goesWell rfl rfl rfl (by decide +kernel) ⟨Nat.le_of_ble_eq_true rfl, Nat.le_of_ble_eq_true rfl⟩) (pvV hT hP hD [0] rfl rfl 0 rfl rfl) rfl rfl hl.1 rfl (lv_room (Nat.le_of_ble_eq_true rfl)) dX6_hill_29 ⟨Nat.zero_le _, Nat.zero_le _⟩) (fun H locs hP hD hS => ?_)
  refine cb_ne (tgt := 37) hx hb dX6_hill_32 (by decide) (fun c_32 => absurd c_32 (by decide)) (fun c_32 => ?_)
  refine lv_iconst (v := nI 0) hx hb dX6_hill_35 (by decide) ?_
  exact fin_i hx hb hr hlocks hP hD hS (rfl) dX6_hill_36
set_option maxHeartbeats 4000000 in
set_option maxRecDepth 100000 in
theorem c_X6_hill_b1 (l : Launch) (D : va_G) (cI cJ cZ : ClassId) (h0 : Nat) (thr : Nat) (mi : Nat) (me : Nat) (dp : Nat) (up : Bool) (dn : Nat) (ma : Nat) (mx : Nat) (mh : Nat) (mg : Nat) (mc : Nat) (mo : Nat) (mr : Nat) (mf : Nat) (mk : Nat) (ml : Nat) (wp : Int64) (wl : Int64) (ru : Nat) (sm : Nat) (ki : Nat) (x1 : Int32) (hki : ki < 20) (hbad : x1.toInt < 0 ∨ 9 < x1.toInt) (sz : Nat) : Met l yX6_hill wsX6_hill ({ frames := 2, cells := 0, slots := 0, locals := 42 } : Room) (va_Pc [.ref h0, .int (nI ki), .int x1] (mPre D cI cJ cZ [(h0, .inr (6, [.int (nI thr), .int (nI mi), .int (nI me), .int (nI dp), .int (bI up), .int (nI dn), .ref ma, .ref mx, .ref mh, .ref mg, .ref mc, .ref mo, .ref mr, .ref mf, .long wp, .long wl, .int (nI ru), .int (nI sm), .ref mk, .ref ml]))] sz)) (Qi9 D (va_A [(h0, .inr (6, [.int (nI thr), .int (nI mi), .int (nI me), .int (nI dp), .int (bI up), .int (nI dn), .ref ma, .ref mx, .ref mh, .ref mg, .ref mc, .ref mo, .ref mr, .ref mf, .long wp, .long wl, .int (nI ru), .int (nI sm), .ref mk, .ref ml]))] sz) [(h0, .inr (6, [.int (nI 2), .int (nI mi), .int (nI me), .int (nI dp), .int (bI up), .int (nI dn), .ref ma, .ref mx, .ref mh, .ref mg, .ref mc, .ref mo, .ref mr, .ref mf, .long wp, .long wl, .int (nI ru), .int (nI sm), .ref mk, .ref ml]))] (nI 0)) 0 0 (va_A [(h0, .inr (6, [.int (nI thr), .int (nI mi), .int (nI me), .int (nI dp), .int (bI up), .int (nI dn), .ref ma, .ref mx, .ref mh, .ref mg, .ref mc, .ref mo, .ref mr, .ref mf, .long wp, .long wl, .int (nI ru), .int (nI sm), .ref mk, .ref ml]))] sz) := by
  refine Met.ofW (cc := cX6_hill) (maxL := 5) (ret := (some .int)) (by decide) rfl ?_
  intro p e s m args below meth c s₁ B hml hv
  obtain ⟨hargs, hsz, hP, hT, hD0⟩ := hv
  have hx := B.exec
  have hb := B.bytes
  have hr := B.returns
  have hts := atoms_spec (ws := wsX6_hill) B.pre
  have hown : s.vm.findClass RX6 = some m.cls := findClass_of_methodNamed B.named
  have hlocks := B.notSynchronized
  subst hsz
  have hK := hT.1
  have hD := hD0.self (sz := s.heap.size)
  generalize hAe : va_A [(h0, .inr (6, [.int (nI thr), .int (nI mi), .int (nI me), .int (nI dp), .int (bI up), .int (nI dn), .ref ma, .ref mx, .ref mh, .ref mg, .ref mc, .ref mo, .ref mr, .ref mf, .long wp, .long wl, .int (nI ru), .int (nI sm), .ref mk, .ref ml]))] s.heap.size = A at hD ⊢
  have hA : ∀ q : Nat, s.heap.size ≤ q → A q := fun q h => by rw [← hAe]; exact Or.inr h
  have hS : va_S A s.heap s.heap [] := va_S.rf
  obtain ⟨H, hHe⟩ : ∃ H : Heap, H = s.heap := ⟨_, rfl⟩
  have hS : va_S A s.heap H [] := by rw [hHe]; exact va_S.rf
  rw [← hHe] at hP
  suffices K0 : W p l e (headSpec wsX6_hill ({ frames := 2, cells := 0, slots := 0, locals := 42 } : Room)).room s m args below meth c H [] 0 0 (MQ below (Qi9 D A [(h0, .inr (6, [.int (nI 2), .int (nI mi), .int (nI me), .int (nI dp), .int (bI up), .int (nI dn), .ref ma, .ref mx, .ref mh, .ref mg, .ref mc, .ref mo, .ref mr, .ref mf, .long wp, .long wl, .int (nI ru), .int (nI sm), .ref mk, .ref ml]))] (nI 0)) args s 0 0 A) (entryFrame m args 5) by rw [hHe] at K0; exact K0
  refine W.eq (g2 := entryFrame m ([.ref h0, .int (nI ki), .int x1] : List Value).toArray 5) (by rw [hargs]) ?_
  have hl := lv_entry ([.ref h0, .int (nI ki), .int x1]) (n := 5) (Nat.le_of_ble_eq_true rfl)
  rw [lg_entry_eq]
  generalize (lg_sl ([.ref h0, .int (nI ki), .int x1]) ++ List.replicate (5 - (lg_sl ([.ref h0, .int (nI ki), .int x1])).length) Slot.unset).toArray = ls at hl ⊢
  have hl : lv_has ls 5 [(0, .ref h0), (1, .int (nI ki)), (2, .int x1)] := hl
  generalize ([] : List Loc) = locs at hS ⊢
  refine lv_iload_n hx hb dX6_hill_0 rfl (lv_at hl 1 rfl) ?_
  refine cr_i (wc := []) (w1 := []) (ws2 := [(h0, .inr (6, [.int (nI thr), .int (nI mi), .int (nI me), .int (nI dp), .int (bI up), .int (nI dn), .ref ma, .ref mx, .ref mh, .ref mg, .ref mc, .ref mo, .ref mr, .ref mf, .long wp, .long wl, .int (nI ru), .int (nI sm), .ref mk, .ref ml]))]) hP hD hS hA [] rfl rfl rfl (va_runS (As := [.int (nI ki)]) (rest := []) ⟨hx, hb, hml, hown, hts⟩ (c_X6_isPlace_T l D cI cJ cZ ki (by omega) H.size) (va_cwS 1 hts gX6_hill_X6_isPlace rfl rfl rfl (by decide +kernel) ⟨Nat.le_of_ble_eq_true rfl, Nat.le_of_ble_eq_true rfl⟩) (pvS hT hP hD [] rfl rfl) rfl rfl hl.1 rfl (lv_room (Nat.le_of_ble_eq_true rfl)) dX6_hill_1 ⟨Nat.zero_le _, Nat.zero_le _⟩) (fun H locs hP hD hS => ?_)
  refine lv_istore_n (lv' := [(3, .int (bI true)), (0, .ref h0), (1, .int (nI ki)), (2, .int x1)]) hx hb dX6_hill_4 rfl hl (by decide) rfl (fun ls hl => ?_)
  refine lv_aload_n hx hb dX6_hill_5 rfl (lv_at hl 1 rfl) ?_
  refine lv_iload_n hx hb dX6_hill_6 rfl (lv_at hl 0 rfl) ?_
  refine cb_ne (tgt := 14) hx hb dX6_hill_7 (by decide) (fun c_7 => ?_) (fun c_7 => absurd c_7 (by decide))
  refine lv_iload_n hx hb dX6_hill_14 rfl (lv_at hl 3 rfl) ?_
  refine lv_iconst (v := nI 0) hx hb dX6_hill_15 (by decide) ?_
  refine lv_bipush (v := nI 9) hx hb dX6_hill_16 (by decide) ?_
  refine cr_i (wc := []) (w1 := []) (ws2 := [(h0, .inr (6, [.int (nI thr), .int (nI mi), .int (nI me), .int (nI dp), .int (bI up), .int (nI dn), .ref ma, .ref mx, .ref mh, .ref mg, .ref mc, .ref mo, .ref mr, .ref mf, .long wp, .long wl, .int (nI ru), .int (nI sm), .ref mk, .ref ml]))]) hP hD hS hA [] rfl rfl rfl (va_runS (As := [.int x1, .int (nI 0), .int (nI 9)]) (rest := [.ref h0]) ⟨hx, hb, hml, hown, hts⟩ (c_X6_in_F l D cI cJ cZ x1 0 9 (by omega) (by omega) (by omega) H.size) (va_cwS 3 hts gX6_hill_X6_in rfl rfl rfl (by decide +kernel) ⟨Nat.le_of_ble_eq_true rfl, Nat.le_of_ble_eq_true rfl⟩) (pvS hT hP hD [] rfl rfl) rfl rfl hl.1 rfl (lv_room (Nat.le_of_ble_eq_true rfl)) dX6_hill_18 ⟨Nat.zero_le _, Nat.zero_le _⟩) (fun H locs hP hD hS => ?_)
  refine cb_eq (tgt := 28) hx hb dX6_hill_21 (by decide) (fun c_21 => ?_) (fun c_21 => absurd c_21 (by decide))
  refine lv_iconst (v := nI 2) hx hb dX6_hill_28 (by decide) ?_
  refine cr_i (wc := [(h0, .inr (6, [.int (nI thr), .int (nI mi), .int (nI me), .int (nI dp), .int (bI up), .int (nI dn), .ref ma, .ref mx, .ref mh, .ref mg, .ref mc, .ref mo, .ref mr, .ref mf, .long wp, .long wl, .int (nI ru), .int (nI sm), .ref mk, .ref ml]))]) (w1 := [(h0, .inr (6, [.int (nI 2), .int (nI mi), .int (nI me), .int (nI dp), .int (bI up), .int (nI dn), .ref ma, .ref mx, .ref mh, .ref mg, .ref mc, .ref mo, .ref mr, .ref mf, .long wp, .long wl, .int (nI ru), .int (nI sm), .ref mk, .ref ml]))]) (ws2 := [(h0, .inr (6, [.int (nI 2), .int (nI mi), .int (nI me), .int (nI dp), .int (bI up), .int (nI dn), .ref ma, .ref mx, .ref mh, .ref mg, .ref mc, .ref mo, .ref mr, .ref mf, .long wp, .long wl, .int (nI ru), .int (nI sm), .ref mk, .ref ml]))]) hP hD hS hA [0] rfl rfl rfl (va_runV (As := [.int (nI 2)]) (rest := []) ⟨hx, hb, hml, hown, hts⟩ (c_X6_goesWell_no l D cI cJ cZ h0 thr mi me dp up dn ma mx mh mg mc mo mr mf mk ml wp wl ru sm 2 (by omega) (by omega) H.size) (cwV 1 hts gX6_hill_X6_goesWell rfl rfl rfl (by decide +kernel) ⟨Nat.le_of_ble_eq_true rfl, Nat.le_of_ble_eq_true rfl⟩) (pvV hT hP hD [0] rfl rfl 0 rfl rfl) rfl rfl hl.1 rfl (lv_room (Nat.le_of_ble_eq_true rfl)) dX6_hill_29 ⟨Nat.zero_le _, Nat.zero_le _⟩) (fun H locs hP hD hS => ?_)
  refine cb_ne (tgt := 37) hx hb dX6_hill_32 (by decide) (fun c_32 => absurd c_32 (by decide)) (fun c_32 => ?_)
  refine lv_iconst (v := nI 0) hx hb dX6_hill_35 (by decide) ?_
  exact fin_i hx hb hr hlocks hP hD hS (rfl) dX6_hill_36
set_option maxHeartbeats 4000000 in
set_option maxRecDepth 100000 in
theorem c_X6_drift_b0 (l : Launch) (D : va_G) (cI cJ cZ : ClassId) (h0 : Nat) (thr : Nat) (mi : Nat) (me : Nat) (dp : Nat) (up : Bool) (dn : Nat) (ma : Nat) (mx : Nat) (mh : Nat) (mg : Nat) (mc : Nat) (mo : Nat) (mr : Nat) (mf : Nat) (mk : Nat) (ml : Nat) (wp : Int64) (wl : Int64) (ru : Nat) (sm : Nat) (x0 : Int32) (bb : Bool) (hbad : x0.toInt < 0 ∨ 60 < x0.toInt) (sz : Nat) : Met l yX6_drift wsX6_drift ({ frames := 1, cells := 0, slots := 0, locals := 22 } : Room) (va_Pc [.ref h0, .int x0, .int (bI bb)] (mPre D cI cJ cZ [(h0, .inr (6, [.int (nI thr), .int (nI mi), .int (nI me), .int (nI dp), .int (bI up), .int (nI dn), .ref ma, .ref mx, .ref mh, .ref mg, .ref mc, .ref mo, .ref mr, .ref mf, .long wp, .long wl, .int (nI ru), .int (nI sm), .ref mk, .ref ml]))] sz)) (Qi9 D (va_A [(h0, .inr (6, [.int (nI thr), .int (nI mi), .int (nI me), .int (nI dp), .int (bI up), .int (nI dn), .ref ma, .ref mx, .ref mh, .ref mg, .ref mc, .ref mo, .ref mr, .ref mf, .long wp, .long wl, .int (nI ru), .int (nI sm), .ref mk, .ref ml]))] sz) [(h0, .inr (6, [.int (nI 1), .int (nI mi), .int (nI me), .int (nI dp), .int (bI up), .int (nI dn), .ref ma, .ref mx, .ref mh, .ref mg, .ref mc, .ref mo, .ref mr, .ref mf, .long wp, .long wl, .int (nI ru), .int (nI sm), .ref mk, .ref ml]))] (nI 0)) 0 0 (va_A [(h0, .inr (6, [.int (nI thr), .int (nI mi), .int (nI me), .int (nI dp), .int (bI up), .int (nI dn), .ref ma, .ref mx, .ref mh, .ref mg, .ref mc, .ref mo, .ref mr, .ref mf, .long wp, .long wl, .int (nI ru), .int (nI sm), .ref mk, .ref ml]))] sz) := by
  refine Met.ofW (cc := cX6_drift) (maxL := 4) (ret := (some .int)) (by decide) rfl ?_
  intro p e s m args below meth c s₁ B hml hv
  obtain ⟨hargs, hsz, hP, hT, hD0⟩ := hv
  have hx := B.exec
  have hb := B.bytes
  have hr := B.returns
  have hts := atoms_spec (ws := wsX6_drift) B.pre
  have hown : s.vm.findClass RX6 = some m.cls := findClass_of_methodNamed B.named
  have hlocks := B.notSynchronized
  subst hsz
  have hK := hT.1
  have hD := hD0.self (sz := s.heap.size)
  generalize hAe : va_A [(h0, .inr (6, [.int (nI thr), .int (nI mi), .int (nI me), .int (nI dp), .int (bI up), .int (nI dn), .ref ma, .ref mx, .ref mh, .ref mg, .ref mc, .ref mo, .ref mr, .ref mf, .long wp, .long wl, .int (nI ru), .int (nI sm), .ref mk, .ref ml]))] s.heap.size = A at hD ⊢
  have hA : ∀ q : Nat, s.heap.size ≤ q → A q := fun q h => by rw [← hAe]; exact Or.inr h
  have hS : va_S A s.heap s.heap [] := va_S.rf
  obtain ⟨H, hHe⟩ : ∃ H : Heap, H = s.heap := ⟨_, rfl⟩
  have hS : va_S A s.heap H [] := by rw [hHe]; exact va_S.rf
  rw [← hHe] at hP
  suffices K0 : W p l e (headSpec wsX6_drift ({ frames := 1, cells := 0, slots := 0, locals := 22 } : Room)).room s m args below meth c H [] 0 0 (MQ below (Qi9 D A [(h0, .inr (6, [.int (nI 1), .int (nI mi), .int (nI me), .int (nI dp), .int (bI up), .int (nI dn), .ref ma, .ref mx, .ref mh, .ref mg, .ref mc, .ref mo, .ref mr, .ref mf, .long wp, .long wl, .int (nI ru), .int (nI sm), .ref mk, .ref ml]))] (nI 0)) args s 0 0 A) (entryFrame m args 4) by rw [hHe] at K0; exact K0
  refine W.eq (g2 := entryFrame m ([.ref h0, .int x0, .int (bI bb)] : List Value).toArray 4) (by rw [hargs]) ?_
  have hl := lv_entry ([.ref h0, .int x0, .int (bI bb)]) (n := 4) (Nat.le_of_ble_eq_true rfl)
  rw [lg_entry_eq]
  generalize (lg_sl ([.ref h0, .int x0, .int (bI bb)]) ++ List.replicate (4 - (lg_sl ([.ref h0, .int x0, .int (bI bb)])).length) Slot.unset).toArray = ls at hl ⊢
  have hl : lv_has ls 4 [(0, .ref h0), (1, .int x0), (2, .int (bI bb))] := hl
  generalize ([] : List Loc) = locs at hS ⊢
  refine lv_aload_n hx hb dX6_drift_0 rfl (lv_at hl 0 rfl) ?_
  refine lv_iload_n hx hb dX6_drift_1 rfl (lv_at hl 1 rfl) ?_
  refine lv_iconst (v := nI 0) hx hb dX6_drift_2 (by decide) ?_
  refine lv_bipush (v := nI 60) hx hb dX6_drift_3 (by decide) ?_
  refine cr_i (wc := []) (w1 := []) (ws2 := [(h0, .inr (6, [.int (nI thr), .int (nI mi), .int (nI me), .int (nI dp), .int (bI up), .int (nI dn), .ref ma, .ref mx, .ref mh, .ref mg, .ref mc, .ref mo, .ref mr, .ref mf, .long wp, .long wl, .int (nI ru), .int (nI sm), .ref mk, .ref ml]))]) hP hD hS hA [] rfl rfl rfl (va_runS (As := [.int x0, .int (nI 0), .int (nI 60)]) (rest := [.ref h0]) ⟨hx, hb, hml, hown, hts⟩ (c_X6_in_F l D cI cJ cZ x0 0 60 (by omega) (by omega) (by omega) H.size) (va_cwS 3 hts gX6_drift_X6_in rfl rfl rfl (by decide +kernel) ⟨Nat.le_of_ble_eq_true rfl, Nat.le_of_ble_eq_true rfl⟩) (pvS hT hP hD [] rfl rfl) rfl rfl hl.1 rfl (lv_room (Nat.le_of_ble_eq_true rfl)) dX6_drift_5 ⟨Nat.zero_le _, Nat.zero_le _⟩) (fun H locs hP hD hS => ?_)
  refine cb_eq (tgt := 15) hx hb dX6_drift_8 (by decide) (fun c_8 => ?_) (fun c_8 => absurd c_8 (by decide))
  refine lv_iconst (v := nI 1) hx hb dX6_drift_15 (by decide) ?_
  refine cr_i (wc := [(h0, .inr (6, [.int (nI thr), .int (nI mi), .int (nI me), .int (nI dp), .int (bI up), .int (nI dn), .ref ma, .ref mx, .ref mh, .ref mg, .ref mc, .ref mo, .ref mr, .ref mf, .long wp, .long wl, .int (nI ru), .int (nI sm), .ref mk, .ref ml]))]) (w1 := [(h0, .inr (6, [.int (nI 1), .int (nI mi), .int (nI me), .int (nI dp), .int (bI up), .int (nI dn), .ref ma, .ref mx, .ref mh, .ref mg, .ref mc, .ref mo, .ref mr, .ref mf, .long wp, .long wl, .int (nI ru), .int (nI sm), .ref mk, .ref ml]))]) (ws2 := [(h0, .inr (6, [.int (nI 1), .int (nI mi), .int (nI me), .int (nI dp), .int (bI up), .int (nI dn), .ref ma, .ref mx, .ref mh, .ref mg, .ref mc, .ref mo, .ref mr, .ref mf, .long wp, .long wl, .int (nI ru), .int (nI sm), .ref mk, .ref ml]))]) hP hD hS hA [0] rfl rfl rfl (va_runV (As := [.int (nI 1)]) (rest := []) ⟨hx, hb, hml, hown, hts⟩ (c_X6_goesWell_no l D cI cJ cZ h0 thr mi me dp up dn ma mx mh mg mc mo mr mf mk ml wp wl ru sm 1 (by omega) (by omega) H.size) (cwV 1 hts gX6_drift_X6_goesWell rfl rfl rfl (by decide +kernel) ⟨Nat.le_of_ble_eq_true rfl, Nat.le_of_ble_eq_true rfl⟩) (pvV hT hP hD [0] rfl rfl 0 rfl rfl) rfl rfl hl.1 rfl (lv_room (Nat.le_of_ble_eq_true rfl)) dX6_drift_16 ⟨Nat.zero_le _, Nat.zero_le _⟩) (fun H locs hP hD hS => ?_)
  refine cb_ne (tgt := 24) hx hb dX6_drift_19 (by decide) (fun c_19 => absurd c_19 (by decide)) (fun c_19 => ?_)
  refine lv_iconst (v := nI 0) hx hb dX6_drift_22 (by decide) ?_
  exact fin_i hx hb hr hlocks hP hD hS (rfl) dX6_drift_23
set_option maxHeartbeats 4000000 in
set_option maxRecDepth 100000 in
theorem c_X6_gauge_b0 (l : Launch) (D : va_G) (cI cJ cZ : ClassId) (h0 : Nat) (thr : Nat) (mi : Nat) (me : Nat) (dp : Nat) (up : Bool) (dn : Nat) (ma : Nat) (mx : Nat) (mh : Nat) (mg : Nat) (mc : Nat) (mo : Nat) (mr : Nat) (mf : Nat) (mk : Nat) (ml : Nat) (wp : Int64) (wl : Int64) (ru : Nat) (sm : Nat) (x0 : Int32) (bb : Bool) (hbad : x0.toInt < 0 ∨ 20 ≤ x0.toInt) (sz : Nat) : Met l yX6_gauge wsX6_gauge ({ frames := 2, cells := 0, slots := 0, locals := 42 } : Room) (va_Pc [.ref h0, .int x0, .int (bI bb)] (mPre D cI cJ cZ [(h0, .inr (6, [.int (nI thr), .int (nI mi), .int (nI me), .int (nI dp), .int (bI up), .int (nI dn), .ref ma, .ref mx, .ref mh, .ref mg, .ref mc, .ref mo, .ref mr, .ref mf, .long wp, .long wl, .int (nI ru), .int (nI sm), .ref mk, .ref ml]))] sz)) (Qi9 D (va_A [(h0, .inr (6, [.int (nI thr), .int (nI mi), .int (nI me), .int (nI dp), .int (bI up), .int (nI dn), .ref ma, .ref mx, .ref mh, .ref mg, .ref mc, .ref mo, .ref mr, .ref mf, .long wp, .long wl, .int (nI ru), .int (nI sm), .ref mk, .ref ml]))] sz) [(h0, .inr (6, [.int (nI 1), .int (nI mi), .int (nI me), .int (nI dp), .int (bI up), .int (nI dn), .ref ma, .ref mx, .ref mh, .ref mg, .ref mc, .ref mo, .ref mr, .ref mf, .long wp, .long wl, .int (nI ru), .int (nI sm), .ref mk, .ref ml]))] (bI false)) 0 0 (va_A [(h0, .inr (6, [.int (nI thr), .int (nI mi), .int (nI me), .int (nI dp), .int (bI up), .int (nI dn), .ref ma, .ref mx, .ref mh, .ref mg, .ref mc, .ref mo, .ref mr, .ref mf, .long wp, .long wl, .int (nI ru), .int (nI sm), .ref mk, .ref ml]))] sz) := by
  refine Met.ofW (cc := cX6_gauge) (maxL := 4) (ret := (some .boolean)) (by decide) rfl ?_
  intro p e s m args below meth c s₁ B hml hv
  obtain ⟨hargs, hsz, hP, hT, hD0⟩ := hv
  have hx := B.exec
  have hb := B.bytes
  have hr := B.returns
  have hts := atoms_spec (ws := wsX6_gauge) B.pre
  have hown : s.vm.findClass RX6 = some m.cls := findClass_of_methodNamed B.named
  have hlocks := B.notSynchronized
  subst hsz
  have hK := hT.1
  have hD := hD0.self (sz := s.heap.size)
  generalize hAe : va_A [(h0, .inr (6, [.int (nI thr), .int (nI mi), .int (nI me), .int (nI dp), .int (bI up), .int (nI dn), .ref ma, .ref mx, .ref mh, .ref mg, .ref mc, .ref mo, .ref mr, .ref mf, .long wp, .long wl, .int (nI ru), .int (nI sm), .ref mk, .ref ml]))] s.heap.size = A at hD ⊢
  have hA : ∀ q : Nat, s.heap.size ≤ q → A q := fun q h => by rw [← hAe]; exact Or.inr h
  have hS : va_S A s.heap s.heap [] := va_S.rf
  obtain ⟨H, hHe⟩ : ∃ H : Heap, H = s.heap := ⟨_, rfl⟩
  have hS : va_S A s.heap H [] := by rw [hHe]; exact va_S.rf
  rw [← hHe] at hP
  suffices K0 : W p l e (headSpec wsX6_gauge ({ frames := 2, cells := 0, slots := 0, locals := 42 } : Room)).room s m args below meth c H [] 0 0 (MQ below (Qi9 D A [(h0, .inr (6, [.int (nI 1), .int (nI mi), .int (nI me), .int (nI dp), .int (bI up), .int (nI dn), .ref ma, .ref mx, .ref mh, .ref mg, .ref mc, .ref mo, .ref mr, .ref mf, .long wp, .long wl, .int (nI ru), .int (nI sm), .ref mk, .ref ml]))] (bI false)) args s 0 0 A) (entryFrame m args 4) by rw [hHe] at K0; exact K0
  refine W.eq (g2 := entryFrame m ([.ref h0, .int x0, .int (bI bb)] : List Value).toArray 4) (by rw [hargs]) ?_
  have hl := lv_entry ([.ref h0, .int x0, .int (bI bb)]) (n := 4) (Nat.le_of_ble_eq_true rfl)
  rw [lg_entry_eq]
  generalize (lg_sl ([.ref h0, .int x0, .int (bI bb)]) ++ List.replicate (4 - (lg_sl ([.ref h0, .int x0, .int (bI bb)])).length) Slot.unset).toArray = ls at hl ⊢
  have hl : lv_has ls 4 [(0, .ref h0), (1, .int x0), (2, .int (bI bb))] := hl
  generalize ([] : List Loc) = locs at hS ⊢
  refine lv_aload_n hx hb dX6_gauge_0 rfl (lv_at hl 0 rfl) ?_
  refine lv_iload_n hx hb dX6_gauge_1 rfl (lv_at hl 1 rfl) ?_
  refine cr_i (wc := []) (w1 := []) (ws2 := [(h0, .inr (6, [.int (nI thr), .int (nI mi), .int (nI me), .int (nI dp), .int (bI up), .int (nI dn), .ref ma, .ref mx, .ref mh, .ref mg, .ref mc, .ref mo, .ref mr, .ref mf, .long wp, .long wl, .int (nI ru), .int (nI sm), .ref mk, .ref ml]))]) hP hD hS hA [] rfl rfl rfl (va_runS (As := [.int x0]) (rest := [.ref h0]) ⟨hx, hb, hml, hown, hts⟩ (c_X6_isPlace_F l D cI cJ cZ x0 (by omega) H.size) (va_cwS 1 hts gX6_gauge_X6_isPlace rfl rfl rfl (by decide +kernel) ⟨Nat.le_of_ble_eq_true rfl, Nat.le_of_ble_eq_true rfl⟩) (pvS hT hP hD [] rfl rfl) rfl rfl hl.1 rfl (lv_room (Nat.le_of_ble_eq_true rfl)) dX6_gauge_2 ⟨Nat.zero_le _, Nat.zero_le _⟩) (fun H locs hP hD hS => ?_)
  refine cb_eq (tgt := 12) hx hb dX6_gauge_5 (by decide) (fun c_5 => ?_) (fun c_5 => absurd c_5 (by decide))
  refine lv_iconst (v := nI 1) hx hb dX6_gauge_12 (by decide) ?_
  refine cr_i (wc := [(h0, .inr (6, [.int (nI thr), .int (nI mi), .int (nI me), .int (nI dp), .int (bI up), .int (nI dn), .ref ma, .ref mx, .ref mh, .ref mg, .ref mc, .ref mo, .ref mr, .ref mf, .long wp, .long wl, .int (nI ru), .int (nI sm), .ref mk, .ref ml]))]) (w1 := [(h0, .inr (6, [.int (nI 1), .int (nI mi), .int (nI me), .int (nI dp), .int (bI up), .int (nI dn), .ref ma, .ref mx, .ref mh, .ref mg, .ref mc, .ref mo, .ref mr, .ref mf, .long wp, .long wl, .int (nI ru), .int (nI sm), .ref mk, .ref ml]))]) (ws2 := [(h0, .inr (6, [.int (nI 1), .int (nI mi), .int (nI me), .int (nI dp), .int (bI up), .int (nI dn), .ref ma, .ref mx, .ref mh, .ref mg, .ref mc, .ref mo, .ref mr, .ref mf, .long wp, .long wl, .int (nI ru), .int (nI sm), .ref mk, .ref ml]))]) hP hD hS hA [0] rfl rfl rfl (va_runV (As := [.int (nI 1)]) (rest := []) ⟨hx, hb, hml, hown, hts⟩ (c_X6_goesWell_no l D cI cJ cZ h0 thr mi me dp up dn ma mx mh mg mc mo mr mf mk ml wp wl ru sm 1 (by omega) (by omega) H.size) (cwV 1 hts gX6_gauge_X6_goesWell rfl rfl rfl (by decide +kernel) ⟨Nat.le_of_ble_eq_true rfl, Nat.le_of_ble_eq_true rfl⟩) (pvV hT hP hD [0] rfl rfl 0 rfl rfl) rfl rfl hl.1 rfl (lv_room (Nat.le_of_ble_eq_true rfl)) dX6_gauge_13 ⟨Nat.zero_le _, Nat.zero_le _⟩) (fun H locs hP hD hS => ?_)
  refine cb_ne (tgt := 21) hx hb dX6_gauge_16 (by decide) (fun c_16 => absurd c_16 (by decide)) (fun c_16 => ?_)
  refine lv_iconst (v := nI 0) hx hb dX6_gauge_19 (by decide) ?_
  exact fin_z hx hb hr hlocks hP hD hS (rfl) dX6_gauge_20
set_option maxHeartbeats 4000000 in
set_option maxRecDepth 100000 in
theorem c_X6_clog_b0 (l : Launch) (D : va_G) (cI cJ cZ : ClassId) (h0 : Nat) (thr : Nat) (mi : Nat) (me : Nat) (dp : Nat) (up : Bool) (dn : Nat) (ma : Nat) (mx : Nat) (mh : Nat) (mg : Nat) (mc : Nat) (mo : Nat) (mr : Nat) (mf : Nat) (mk : Nat) (ml : Nat) (wp : Int64) (wl : Int64) (ru : Nat) (sm : Nat) (x0 : Int32) (bb : Bool) (hbad : x0.toInt < 0 ∨ 20 ≤ x0.toInt) (sz : Nat) : Met l yX6_clog wsX6_clog ({ frames := 2, cells := 0, slots := 0, locals := 42 } : Room) (va_Pc [.ref h0, .int x0, .int (bI bb)] (mPre D cI cJ cZ [(h0, .inr (6, [.int (nI thr), .int (nI mi), .int (nI me), .int (nI dp), .int (bI up), .int (nI dn), .ref ma, .ref mx, .ref mh, .ref mg, .ref mc, .ref mo, .ref mr, .ref mf, .long wp, .long wl, .int (nI ru), .int (nI sm), .ref mk, .ref ml]))] sz)) (Qi9 D (va_A [(h0, .inr (6, [.int (nI thr), .int (nI mi), .int (nI me), .int (nI dp), .int (bI up), .int (nI dn), .ref ma, .ref mx, .ref mh, .ref mg, .ref mc, .ref mo, .ref mr, .ref mf, .long wp, .long wl, .int (nI ru), .int (nI sm), .ref mk, .ref ml]))] sz) [(h0, .inr (6, [.int (nI 1), .int (nI mi), .int (nI me), .int (nI dp), .int (bI up), .int (nI dn), .ref ma, .ref mx, .ref mh, .ref mg, .ref mc, .ref mo, .ref mr, .ref mf, .long wp, .long wl, .int (nI ru), .int (nI sm), .ref mk, .ref ml]))] (bI false)) 0 0 (va_A [(h0, .inr (6, [.int (nI thr), .int (nI mi), .int (nI me), .int (nI dp), .int (bI up), .int (nI dn), .ref ma, .ref mx, .ref mh, .ref mg, .ref mc, .ref mo, .ref mr, .ref mf, .long wp, .long wl, .int (nI ru), .int (nI sm), .ref mk, .ref ml]))] sz) := by
  refine Met.ofW (cc := cX6_clog) (maxL := 4) (ret := (some .boolean)) (by decide) rfl ?_
  intro p e s m args below meth c s₁ B hml hv
  obtain ⟨hargs, hsz, hP, hT, hD0⟩ := hv
  have hx := B.exec
  have hb := B.bytes
  have hr := B.returns
  have hts := atoms_spec (ws := wsX6_clog) B.pre
  have hown : s.vm.findClass RX6 = some m.cls := findClass_of_methodNamed B.named
  have hlocks := B.notSynchronized
  subst hsz
  have hK := hT.1
  have hD := hD0.self (sz := s.heap.size)
  generalize hAe : va_A [(h0, .inr (6, [.int (nI thr), .int (nI mi), .int (nI me), .int (nI dp), .int (bI up), .int (nI dn), .ref ma, .ref mx, .ref mh, .ref mg, .ref mc, .ref mo, .ref mr, .ref mf, .long wp, .long wl, .int (nI ru), .int (nI sm), .ref mk, .ref ml]))] s.heap.size = A at hD ⊢
  have hA : ∀ q : Nat, s.heap.size ≤ q → A q := fun q h => by rw [← hAe]; exact Or.inr h
  have hS : va_S A s.heap s.heap [] := va_S.rf
  obtain ⟨H, hHe⟩ : ∃ H : Heap, H = s.heap := ⟨_, rfl⟩
  have hS : va_S A s.heap H [] := by rw [hHe]; exact va_S.rf
  rw [← hHe] at hP
  suffices K0 : W p l e (headSpec wsX6_clog ({ frames := 2, cells := 0, slots := 0, locals := 42 } : Room)).room s m args below meth c H [] 0 0 (MQ below (Qi9 D A [(h0, .inr (6, [.int (nI 1), .int (nI mi), .int (nI me), .int (nI dp), .int (bI up), .int (nI dn), .ref ma, .ref mx, .ref mh, .ref mg, .ref mc, .ref mo, .ref mr, .ref mf, .long wp, .long wl, .int (nI ru), .int (nI sm), .ref mk, .ref ml]))] (bI false)) args s 0 0 A) (entryFrame m args 4) by rw [hHe] at K0; exact K0
  refine W.eq (g2 := entryFrame m ([.ref h0, .int x0, .int (bI bb)] : List Value).toArray 4) (by rw [hargs]) ?_
  have hl := lv_entry ([.ref h0, .int x0, .int (bI bb)]) (n := 4) (Nat.le_of_ble_eq_true rfl)
  rw [lg_entry_eq]
  generalize (lg_sl ([.ref h0, .int x0, .int (bI bb)]) ++ List.replicate (4 - (lg_sl ([.ref h0, .int x0, .int (bI bb)])).length) Slot.unset).toArray = ls at hl ⊢
  have hl : lv_has ls 4 [(0, .ref h0), (1, .int x0), (2, .int (bI bb))] := hl
  generalize ([] : List Loc) = locs at hS ⊢
  refine lv_aload_n hx hb dX6_clog_0 rfl (lv_at hl 0 rfl) ?_
  refine lv_iload_n hx hb dX6_clog_1 rfl (lv_at hl 1 rfl) ?_
  refine cr_i (wc := []) (w1 := []) (ws2 := [(h0, .inr (6, [.int (nI thr), .int (nI mi), .int (nI me), .int (nI dp), .int (bI up), .int (nI dn), .ref ma, .ref mx, .ref mh, .ref mg, .ref mc, .ref mo, .ref mr, .ref mf, .long wp, .long wl, .int (nI ru), .int (nI sm), .ref mk, .ref ml]))]) hP hD hS hA [] rfl rfl rfl (va_runS (As := [.int x0]) (rest := [.ref h0]) ⟨hx, hb, hml, hown, hts⟩ (c_X6_isPlace_F l D cI cJ cZ x0 (by omega) H.size) (va_cwS 1 hts gX6_clog_X6_isPlace rfl rfl rfl (by decide +kernel) ⟨Nat.le_of_ble_eq_true rfl, Nat.le_of_ble_eq_true rfl⟩) (pvS hT hP hD [] rfl rfl) rfl rfl hl.1 rfl (lv_room (Nat.le_of_ble_eq_true rfl)) dX6_clog_2 ⟨Nat.zero_le _, Nat.zero_le _⟩) (fun H locs hP hD hS => ?_)
  refine cb_eq (tgt := 21) hx hb dX6_clog_5 (by decide) (fun c_5 => ?_) (fun c_5 => absurd c_5 (by decide))
  refine lv_iconst (v := nI 1) hx hb dX6_clog_21 (by decide) ?_
  refine cr_i (wc := [(h0, .inr (6, [.int (nI thr), .int (nI mi), .int (nI me), .int (nI dp), .int (bI up), .int (nI dn), .ref ma, .ref mx, .ref mh, .ref mg, .ref mc, .ref mo, .ref mr, .ref mf, .long wp, .long wl, .int (nI ru), .int (nI sm), .ref mk, .ref ml]))]) (w1 := [(h0, .inr (6, [.int (nI 1), .int (nI mi), .int (nI me), .int (nI dp), .int (bI up), .int (nI dn), .ref ma, .ref mx, .ref mh, .ref mg, .ref mc, .ref mo, .ref mr, .ref mf, .long wp, .long wl, .int (nI ru), .int (nI sm), .ref mk, .ref ml]))]) (ws2 := [(h0, .inr (6, [.int (nI 1), .int (nI mi), .int (nI me), .int (nI dp), .int (bI up), .int (nI dn), .ref ma, .ref mx, .ref mh, .ref mg, .ref mc, .ref mo, .ref mr, .ref mf, .long wp, .long wl, .int (nI ru), .int (nI sm), .ref mk, .ref ml]))]) hP hD hS hA [0] rfl rfl rfl (va_runV (As := [.int (nI 1)]) (rest := []) ⟨hx, hb, hml, hown, hts⟩ (c_X6_goesWell_no l D cI cJ cZ h0 thr mi me dp up dn ma mx mh mg mc mo mr mf mk ml wp wl ru sm 1 (by omega) (by omega) H.size) (cwV 1 hts gX6_clog_X6_goesWell rfl rfl rfl (by decide +kernel) ⟨Nat.le_of_ble_eq_true rfl, Nat.le_of_ble_eq_true rfl⟩) (pvV hT hP hD [0] rfl rfl 0 rfl rfl) rfl rfl hl.1 rfl (lv_room (Nat.le_of_ble_eq_true rfl)) dX6_clog_22 ⟨Nat.zero_le _, Nat.zero_le _⟩) (fun H locs hP hD hS => ?_)
  refine cb_ne (tgt := 30) hx hb dX6_clog_25 (by decide) (fun c_25 => absurd c_25 (by decide)) (fun c_25 => ?_)
  refine lv_iconst (v := nI 0) hx hb dX6_clog_28 (by decide) ?_
  exact fin_z hx hb hr hlocks hP hD hS (rfl) dX6_clog_29
set_option maxHeartbeats 4000000 in
set_option maxRecDepth 100000 in
theorem c_X6_clog_b1 (l : Launch) (D : va_G) (cI cJ cZ : ClassId) (h0 : Nat) (thr : Nat) (mi : Nat) (me : Nat) (dp : Nat) (up : Bool) (dn : Nat) (ma : Nat) (mx : Nat) (mh : Nat) (mg : Nat) (mc : Nat) (mo : Nat) (mr : Nat) (mf : Nat) (mk : Nat) (ml : Nat) (wp : Int64) (wl : Int64) (ru : Nat) (sm : Nat) (UP : Nat → Bool) (ki : Nat) (bb : Bool) (hki : ki < 20) (hup : UP ki = false) (sz : Nat) : Met l yX6_clog wsX6_clog ({ frames := 2, cells := 0, slots := 0, locals := 42 } : Room) (va_Pc [.ref h0, .int (nI ki), .int (bI bb)] (mPre D cI cJ cZ [(h0, .inr (6, [.int (nI thr), .int (nI mi), .int (nI me), .int (nI dp), .int (bI up), .int (nI dn), .ref ma, .ref mx, .ref mh, .ref mg, .ref mc, .ref mo, .ref mr, .ref mf, .long wp, .long wl, .int (nI ru), .int (nI sm), .ref mk, .ref ml])), (mg, .inl (cZ, 20, .inl (bA UP)))] sz)) (Qi9 D (va_A [(h0, .inr (6, [.int (nI thr), .int (nI mi), .int (nI me), .int (nI dp), .int (bI up), .int (nI dn), .ref ma, .ref mx, .ref mh, .ref mg, .ref mc, .ref mo, .ref mr, .ref mf, .long wp, .long wl, .int (nI ru), .int (nI sm), .ref mk, .ref ml])), (mg, .inl (cZ, 20, .inl (bA UP)))] sz) [(h0, .inr (6, [.int (nI 1), .int (nI mi), .int (nI me), .int (nI dp), .int (bI up), .int (nI dn), .ref ma, .ref mx, .ref mh, .ref mg, .ref mc, .ref mo, .ref mr, .ref mf, .long wp, .long wl, .int (nI ru), .int (nI sm), .ref mk, .ref ml])), (mg, .inl (cZ, 20, .inl (bA UP)))] (bI false)) 0 0 (va_A [(h0, .inr (6, [.int (nI thr), .int (nI mi), .int (nI me), .int (nI dp), .int (bI up), .int (nI dn), .ref ma, .ref mx, .ref mh, .ref mg, .ref mc, .ref mo, .ref mr, .ref mf, .long wp, .long wl, .int (nI ru), .int (nI sm), .ref mk, .ref ml])), (mg, .inl (cZ, 20, .inl (bA UP)))] sz) := by
  refine Met.ofW (cc := cX6_clog) (maxL := 4) (ret := (some .boolean)) (by decide) rfl ?_
  intro p e s m args below meth c s₁ B hml hv
  obtain ⟨hargs, hsz, hP, hT, hD0⟩ := hv
  have hx := B.exec
  have hb := B.bytes
  have hr := B.returns
  have hts := atoms_spec (ws := wsX6_clog) B.pre
  have hown : s.vm.findClass RX6 = some m.cls := findClass_of_methodNamed B.named
  have hlocks := B.notSynchronized
  subst hsz
  have hK := hT.1
  have hD := hD0.self (sz := s.heap.size)
  generalize hAe : va_A [(h0, .inr (6, [.int (nI thr), .int (nI mi), .int (nI me), .int (nI dp), .int (bI up), .int (nI dn), .ref ma, .ref mx, .ref mh, .ref mg, .ref mc, .ref mo, .ref mr, .ref mf, .long wp, .long wl, .int (nI ru), .int (nI sm), .ref mk, .ref ml])), (mg, .inl (cZ, 20, .inl (bA UP)))] s.heap.size = A at hD ⊢
  have hA : ∀ q : Nat, s.heap.size ≤ q → A q := fun q h => by rw [← hAe]; exact Or.inr h
  have hS : va_S A s.heap s.heap [] := va_S.rf
  obtain ⟨H, hHe⟩ : ∃ H : Heap, H = s.heap := ⟨_, rfl⟩
  have hS : va_S A s.heap H [] := by rw [hHe]; exact va_S.rf
  rw [← hHe] at hP
  suffices K0 : W p l e (headSpec wsX6_clog ({ frames := 2, cells := 0, slots := 0, locals := 42 } : Room)).room s m args below meth c H [] 0 0 (MQ below (Qi9 D A [(h0, .inr (6, [.int (nI 1), .int (nI mi), .int (nI me), .int (nI dp), .int (bI up), .int (nI dn), .ref ma, .ref mx, .ref mh, .ref mg, .ref mc, .ref mo, .ref mr, .ref mf, .long wp, .long wl, .int (nI ru), .int (nI sm), .ref mk, .ref ml])), (mg, .inl (cZ, 20, .inl (bA UP)))] (bI false)) args s 0 0 A) (entryFrame m args 4) by rw [hHe] at K0; exact K0
  refine W.eq (g2 := entryFrame m ([.ref h0, .int (nI ki), .int (bI bb)] : List Value).toArray 4) (by rw [hargs]) ?_
  have hl := lv_entry ([.ref h0, .int (nI ki), .int (bI bb)]) (n := 4) (Nat.le_of_ble_eq_true rfl)
  rw [lg_entry_eq]
  generalize (lg_sl ([.ref h0, .int (nI ki), .int (bI bb)]) ++ List.replicate (4 - (lg_sl ([.ref h0, .int (nI ki), .int (bI bb)])).length) Slot.unset).toArray = ls at hl ⊢
  have hl : lv_has ls 4 [(0, .ref h0), (1, .int (nI ki)), (2, .int (bI bb))] := hl
  generalize ([] : List Loc) = locs at hS ⊢
  have hinX6 : ∀ w ∈ wsX60, w ∈ wsX6_clog := by decide +kernel
  have hf23 := hts (.fieldLink RX6 23 "BrightbandModel" "hasGauge" "[Z") (by decide +kernel)
  refine lv_aload_n hx hb dX6_clog_0 rfl (lv_at hl 0 rfl) ?_
  refine lv_iload_n hx hb dX6_clog_1 rfl (lv_at hl 1 rfl) ?_
  refine cr_i (wc := []) (w1 := []) (ws2 := [(h0, .inr (6, [.int (nI thr), .int (nI mi), .int (nI me), .int (nI dp), .int (bI up), .int (nI dn), .ref ma, .ref mx, .ref mh, .ref mg, .ref mc, .ref mo, .ref mr, .ref mf, .long wp, .long wl, .int (nI ru), .int (nI sm), .ref mk, .ref ml])), (mg, .inl (cZ, 20, .inl (bA UP)))]) hP hD hS hA [] rfl rfl rfl (va_runS (As := [.int (nI ki)]) (rest := [.ref h0]) ⟨hx, hb, hml, hown, hts⟩ (c_X6_isPlace_T l D cI cJ cZ ki (by omega) H.size) (va_cwS 1 hts gX6_clog_X6_isPlace rfl rfl rfl (by decide +kernel) ⟨Nat.le_of_ble_eq_true rfl, Nat.le_of_ble_eq_true rfl⟩) (pvS hT hP hD [] rfl rfl) rfl rfl hl.1 rfl (lv_room (Nat.le_of_ble_eq_true rfl)) dX6_clog_2 ⟨Nat.zero_le _, Nat.zero_le _⟩) (fun H locs hP hD hS => ?_)
  refine cb_eq (tgt := 21) hx hb dX6_clog_5 (by decide) (fun c_5 => absurd c_5 (by decide)) (fun c_5 => ?_)
  refine lv_aload_n hx hb dX6_clog_8 rfl (lv_at hl 0 rfl) ?_
  refine va_get (D := D) (ci := 6) (v := .ref mg) (C := RX6) (T := TX6) (N := 20) hx hb hts hinX6 hown hK hP 0 rfl rfl 9 (by decide) hf23 (fun _ h9 => h9) rfl dX6_clog_9 ?_
  refine lv_iload_n hx hb dX6_clog_12 rfl (lv_at hl 1 rfl) ?_
  refine ald_B hx hb hK hP 1 2 rfl rfl ki rfl (by omega) (Nat.le_of_ble_eq_true rfl) dX6_clog_13 ?_
  refine cb_eq (tgt := 21) hx hb dX6_clog_14 (by decide) (fun c_14 => ?_) (fun c_14 => by rw [hup] at c_14; cases c_14)
  refine lv_iconst (v := nI 1) hx hb dX6_clog_21 (by decide) ?_
  refine cr_i (wc := [(h0, .inr (6, [.int (nI thr), .int (nI mi), .int (nI me), .int (nI dp), .int (bI up), .int (nI dn), .ref ma, .ref mx, .ref mh, .ref mg, .ref mc, .ref mo, .ref mr, .ref mf, .long wp, .long wl, .int (nI ru), .int (nI sm), .ref mk, .ref ml]))]) (w1 := [(h0, .inr (6, [.int (nI 1), .int (nI mi), .int (nI me), .int (nI dp), .int (bI up), .int (nI dn), .ref ma, .ref mx, .ref mh, .ref mg, .ref mc, .ref mo, .ref mr, .ref mf, .long wp, .long wl, .int (nI ru), .int (nI sm), .ref mk, .ref ml]))]) (ws2 := [(h0, .inr (6, [.int (nI 1), .int (nI mi), .int (nI me), .int (nI dp), .int (bI up), .int (nI dn), .ref ma, .ref mx, .ref mh, .ref mg, .ref mc, .ref mo, .ref mr, .ref mf, .long wp, .long wl, .int (nI ru), .int (nI sm), .ref mk, .ref ml])), (mg, .inl (cZ, 20, .inl (bA UP)))]) hP hD hS hA [0] rfl rfl rfl (va_runV (As := [.int (nI 1)]) (rest := []) ⟨hx, hb, hml, hown, hts⟩ (c_X6_goesWell_no l D cI cJ cZ h0 thr mi me dp up dn ma mx mh mg mc mo mr mf mk ml wp wl ru sm 1 (by omega) (by omega) H.size) (cwV 1 hts gX6_clog_X6_goesWell rfl rfl rfl (by decide +kernel) ⟨Nat.le_of_ble_eq_true rfl, Nat.le_of_ble_eq_true rfl⟩) (pvV hT hP hD [0] rfl rfl 0 rfl rfl) rfl rfl hl.1 rfl (lv_room (Nat.le_of_ble_eq_true rfl)) dX6_clog_22 ⟨Nat.zero_le _, Nat.zero_le _⟩) (fun H locs hP hD hS => ?_)
  refine cb_ne (tgt := 30) hx hb dX6_clog_25 (by decide) (fun c_25 => absurd c_25 (by decide)) (fun c_25 => ?_)
  refine lv_iconst (v := nI 0) hx hb dX6_clog_28 (by decide) ?_
  exact fin_z hx hb hr hlocks hP hD hS (rfl) dX6_clog_29
set_option maxHeartbeats 4000000 in
set_option maxRecDepth 100000 in
theorem c_X6_pass_b0 (l : Launch) (D : va_G) (cI cJ cZ : ClassId) (h0 : Nat) (thr : Nat) (mi : Nat) (me : Nat) (dp : Nat) (up : Bool) (dn : Nat) (ma : Nat) (mx : Nat) (mh : Nat) (mg : Nat) (mc : Nat) (mo : Nat) (mr : Nat) (mf : Nat) (mk : Nat) (ml : Nat) (wp : Int64) (wl : Int64) (ru : Nat) (sm : Nat) (x0 : Int32) (hbad : x0.toInt < 1 ∨ 60 < x0.toInt) (sz : Nat) : Met l yX6_pass wsX6_pass ({ frames := 1, cells := 0, slots := 0, locals := 22 } : Room) (va_Pc [.ref h0, .int x0] (mPre D cI cJ cZ [(h0, .inr (6, [.int (nI thr), .int (nI mi), .int (nI me), .int (nI dp), .int (bI up), .int (nI dn), .ref ma, .ref mx, .ref mh, .ref mg, .ref mc, .ref mo, .ref mr, .ref mf, .long wp, .long wl, .int (nI ru), .int (nI sm), .ref mk, .ref ml]))] sz)) (Qi9 D (va_A [(h0, .inr (6, [.int (nI thr), .int (nI mi), .int (nI me), .int (nI dp), .int (bI up), .int (nI dn), .ref ma, .ref mx, .ref mh, .ref mg, .ref mc, .ref mo, .ref mr, .ref mf, .long wp, .long wl, .int (nI ru), .int (nI sm), .ref mk, .ref ml]))] sz) [(h0, .inr (6, [.int (nI 1), .int (nI mi), .int (nI me), .int (nI dp), .int (bI up), .int (nI dn), .ref ma, .ref mx, .ref mh, .ref mg, .ref mc, .ref mo, .ref mr, .ref mf, .long wp, .long wl, .int (nI ru), .int (nI sm), .ref mk, .ref ml]))] (nI 0)) 0 0 (va_A [(h0, .inr (6, [.int (nI thr), .int (nI mi), .int (nI me), .int (nI dp), .int (bI up), .int (nI dn), .ref ma, .ref mx, .ref mh, .ref mg, .ref mc, .ref mo, .ref mr, .ref mf, .long wp, .long wl, .int (nI ru), .int (nI sm), .ref mk, .ref ml]))] sz) := by
  refine Met.ofW (cc := cX6_pass) (maxL := 4) (ret := (some .int)) (by decide) rfl ?_
  intro p e s m args below meth c s₁ B hml hv
  obtain ⟨hargs, hsz, hP, hT, hD0⟩ := hv
  have hx := B.exec
  have hb := B.bytes
  have hr := B.returns
  have hts := atoms_spec (ws := wsX6_pass) B.pre
  have hown : s.vm.findClass RX6 = some m.cls := findClass_of_methodNamed B.named
  have hlocks := B.notSynchronized
  subst hsz
  have hK := hT.1
  have hD := hD0.self (sz := s.heap.size)
  generalize hAe : va_A [(h0, .inr (6, [.int (nI thr), .int (nI mi), .int (nI me), .int (nI dp), .int (bI up), .int (nI dn), .ref ma, .ref mx, .ref mh, .ref mg, .ref mc, .ref mo, .ref mr, .ref mf, .long wp, .long wl, .int (nI ru), .int (nI sm), .ref mk, .ref ml]))] s.heap.size = A at hD ⊢
  have hA : ∀ q : Nat, s.heap.size ≤ q → A q := fun q h => by rw [← hAe]; exact Or.inr h
  have hS : va_S A s.heap s.heap [] := va_S.rf
  obtain ⟨H, hHe⟩ : ∃ H : Heap, H = s.heap := ⟨_, rfl⟩
  have hS : va_S A s.heap H [] := by rw [hHe]; exact va_S.rf
  rw [← hHe] at hP
  suffices K0 : W p l e (headSpec wsX6_pass ({ frames := 1, cells := 0, slots := 0, locals := 22 } : Room)).room s m args below meth c H [] 0 0 (MQ below (Qi9 D A [(h0, .inr (6, [.int (nI 1), .int (nI mi), .int (nI me), .int (nI dp), .int (bI up), .int (nI dn), .ref ma, .ref mx, .ref mh, .ref mg, .ref mc, .ref mo, .ref mr, .ref mf, .long wp, .long wl, .int (nI ru), .int (nI sm), .ref mk, .ref ml]))] (nI 0)) args s 0 0 A) (entryFrame m args 4) by rw [hHe] at K0; exact K0
  refine W.eq (g2 := entryFrame m ([.ref h0, .int x0] : List Value).toArray 4) (by rw [hargs]) ?_
  have hl := lv_entry ([.ref h0, .int x0]) (n := 4) (Nat.le_of_ble_eq_true rfl)
  rw [lg_entry_eq]
  generalize (lg_sl ([.ref h0, .int x0]) ++ List.replicate (4 - (lg_sl ([.ref h0, .int x0])).length) Slot.unset).toArray = ls at hl ⊢
  have hl : lv_has ls 4 [(0, .ref h0), (1, .int x0)] := hl
  generalize ([] : List Loc) = locs at hS ⊢
  refine lv_iload_n hx hb dX6_pass_0 rfl (lv_at hl 1 rfl) ?_
  refine lv_iconst (v := nI 1) hx hb dX6_pass_1 (by decide) ?_
  refine lv_bipush (v := nI 60) hx hb dX6_pass_2 (by decide) ?_
  refine cr_i (wc := []) (w1 := []) (ws2 := [(h0, .inr (6, [.int (nI thr), .int (nI mi), .int (nI me), .int (nI dp), .int (bI up), .int (nI dn), .ref ma, .ref mx, .ref mh, .ref mg, .ref mc, .ref mo, .ref mr, .ref mf, .long wp, .long wl, .int (nI ru), .int (nI sm), .ref mk, .ref ml]))]) hP hD hS hA [] rfl rfl rfl (va_runS (As := [.int x0, .int (nI 1), .int (nI 60)]) (rest := []) ⟨hx, hb, hml, hown, hts⟩ (c_X6_in_F l D cI cJ cZ x0 1 60 (by omega) (by omega) (by omega) H.size) (va_cwS 3 hts gX6_pass_X6_in rfl rfl rfl (by decide +kernel) ⟨Nat.le_of_ble_eq_true rfl, Nat.le_of_ble_eq_true rfl⟩) (pvS hT hP hD [] rfl rfl) rfl rfl hl.1 rfl (lv_room (Nat.le_of_ble_eq_true rfl)) dX6_pass_4 ⟨Nat.zero_le _, Nat.zero_le _⟩) (fun H locs hP hD hS => ?_)
  refine lv_istore_n (lv' := [(2, .int (bI false)), (0, .ref h0), (1, .int x0)]) hx hb dX6_pass_7 rfl hl (by decide) rfl (fun ls hl => ?_)
  refine lv_aload_n hx hb dX6_pass_8 rfl (lv_at hl 1 rfl) ?_
  refine lv_iload_n hx hb dX6_pass_9 rfl (lv_at hl 0 rfl) ?_
  refine cb_ne (tgt := 17) hx hb dX6_pass_10 (by decide) (fun c_10 => absurd c_10 (by decide)) (fun c_10 => ?_)
  refine lv_iconst (v := nI 1) hx hb dX6_pass_13 (by decide) ?_
  refine lv_goto (tgt := 34) hx hb dX6_pass_14 (by decide) ?_
  refine cr_i (wc := [(h0, .inr (6, [.int (nI thr), .int (nI mi), .int (nI me), .int (nI dp), .int (bI up), .int (nI dn), .ref ma, .ref mx, .ref mh, .ref mg, .ref mc, .ref mo, .ref mr, .ref mf, .long wp, .long wl, .int (nI ru), .int (nI sm), .ref mk, .ref ml]))]) (w1 := [(h0, .inr (6, [.int (nI 1), .int (nI mi), .int (nI me), .int (nI dp), .int (bI up), .int (nI dn), .ref ma, .ref mx, .ref mh, .ref mg, .ref mc, .ref mo, .ref mr, .ref mf, .long wp, .long wl, .int (nI ru), .int (nI sm), .ref mk, .ref ml]))]) (ws2 := [(h0, .inr (6, [.int (nI 1), .int (nI mi), .int (nI me), .int (nI dp), .int (bI up), .int (nI dn), .ref ma, .ref mx, .ref mh, .ref mg, .ref mc, .ref mo, .ref mr, .ref mf, .long wp, .long wl, .int (nI ru), .int (nI sm), .ref mk, .ref ml]))]) hP hD hS hA [0] rfl rfl rfl (va_runV (As := [.int (nI 1)]) (rest := []) ⟨hx, hb, hml, hown, hts⟩ (c_X6_goesWell_no l D cI cJ cZ h0 thr mi me dp up dn ma mx mh mg mc mo mr mf mk ml wp wl ru sm 1 (by omega) (by omega) H.size) (cwV 1 hts gX6_pass_X6_goesWell rfl rfl rfl (by decide +kernel) ⟨Nat.le_of_ble_eq_true rfl, Nat.le_of_ble_eq_true rfl⟩) (pvV hT hP hD [0] rfl rfl 0 rfl rfl) rfl rfl hl.1 rfl (lv_room (Nat.le_of_ble_eq_true rfl)) dX6_pass_34 ⟨Nat.zero_le _, Nat.zero_le _⟩) (fun H locs hP hD hS => ?_)
  refine cb_ne (tgt := 42) hx hb dX6_pass_37 (by decide) (fun c_37 => absurd c_37 (by decide)) (fun c_37 => ?_)
  refine lv_iconst (v := nI 0) hx hb dX6_pass_40 (by decide) ?_
  exact fin_i hx hb hr hlocks hP hD hS (rfl) dX6_pass_41
set_option maxHeartbeats 4000000 in
set_option maxRecDepth 100000 in
theorem c_X6_pass_b1 (l : Launch) (D : va_G) (cI cJ cZ : ClassId) (h0 : Nat) (thr : Nat) (mi : Nat) (me : Nat) (dp : Nat) (up : Bool) (dn : Nat) (ma : Nat) (mx : Nat) (mh : Nat) (mg : Nat) (mc : Nat) (mo : Nat) (mr : Nat) (mf : Nat) (mk : Nat) (ml : Nat) (wp : Int64) (wl : Int64) (ru : Nat) (sm : Nat) (mn : Nat) (h1mn : 1 ≤ mn) (h2mn : mn ≤ 60) (hmm : 600 < mi + mn) (hmi : mi ≤ 600) (sz : Nat) : Met l yX6_pass wsX6_pass ({ frames := 1, cells := 0, slots := 0, locals := 22 } : Room) (va_Pc [.ref h0, .int (nI mn)] (mPre D cI cJ cZ [(h0, .inr (6, [.int (nI thr), .int (nI mi), .int (nI me), .int (nI dp), .int (bI up), .int (nI dn), .ref ma, .ref mx, .ref mh, .ref mg, .ref mc, .ref mo, .ref mr, .ref mf, .long wp, .long wl, .int (nI ru), .int (nI sm), .ref mk, .ref ml]))] sz)) (Qi9 D (va_A [(h0, .inr (6, [.int (nI thr), .int (nI mi), .int (nI me), .int (nI dp), .int (bI up), .int (nI dn), .ref ma, .ref mx, .ref mh, .ref mg, .ref mc, .ref mo, .ref mr, .ref mf, .long wp, .long wl, .int (nI ru), .int (nI sm), .ref mk, .ref ml]))] sz) [(h0, .inr (6, [.int (nI 2), .int (nI mi), .int (nI me), .int (nI dp), .int (bI up), .int (nI dn), .ref ma, .ref mx, .ref mh, .ref mg, .ref mc, .ref mo, .ref mr, .ref mf, .long wp, .long wl, .int (nI ru), .int (nI sm), .ref mk, .ref ml]))] (nI 0)) 0 0 (va_A [(h0, .inr (6, [.int (nI thr), .int (nI mi), .int (nI me), .int (nI dp), .int (bI up), .int (nI dn), .ref ma, .ref mx, .ref mh, .ref mg, .ref mc, .ref mo, .ref mr, .ref mf, .long wp, .long wl, .int (nI ru), .int (nI sm), .ref mk, .ref ml]))] sz) := by
  refine Met.ofW (cc := cX6_pass) (maxL := 4) (ret := (some .int)) (by decide) rfl ?_
  intro p e s m args below meth c s₁ B hml hv
  obtain ⟨hargs, hsz, hP, hT, hD0⟩ := hv
  have hx := B.exec
  have hb := B.bytes
  have hr := B.returns
  have hts := atoms_spec (ws := wsX6_pass) B.pre
  have hown : s.vm.findClass RX6 = some m.cls := findClass_of_methodNamed B.named
  have hlocks := B.notSynchronized
  subst hsz
  have hK := hT.1
  have hD := hD0.self (sz := s.heap.size)
  generalize hAe : va_A [(h0, .inr (6, [.int (nI thr), .int (nI mi), .int (nI me), .int (nI dp), .int (bI up), .int (nI dn), .ref ma, .ref mx, .ref mh, .ref mg, .ref mc, .ref mo, .ref mr, .ref mf, .long wp, .long wl, .int (nI ru), .int (nI sm), .ref mk, .ref ml]))] s.heap.size = A at hD ⊢
  have hA : ∀ q : Nat, s.heap.size ≤ q → A q := fun q h => by rw [← hAe]; exact Or.inr h
  have hS : va_S A s.heap s.heap [] := va_S.rf
  obtain ⟨H, hHe⟩ : ∃ H : Heap, H = s.heap := ⟨_, rfl⟩
  have hS : va_S A s.heap H [] := by rw [hHe]; exact va_S.rf
  rw [← hHe] at hP
  suffices K0 : W p l e (headSpec wsX6_pass ({ frames := 1, cells := 0, slots := 0, locals := 22 } : Room)).room s m args below meth c H [] 0 0 (MQ below (Qi9 D A [(h0, .inr (6, [.int (nI 2), .int (nI mi), .int (nI me), .int (nI dp), .int (bI up), .int (nI dn), .ref ma, .ref mx, .ref mh, .ref mg, .ref mc, .ref mo, .ref mr, .ref mf, .long wp, .long wl, .int (nI ru), .int (nI sm), .ref mk, .ref ml]))] (nI 0)) args s 0 0 A) (entryFrame m args 4) by rw [hHe] at K0; exact K0
  refine W.eq (g2 := entryFrame m ([.ref h0, .int (nI mn)] : List Value).toArray 4) (by rw [hargs]) ?_
  have hl := lv_entry ([.ref h0, .int (nI mn)]) (n := 4) (Nat.le_of_ble_eq_true rfl)
  rw [lg_entry_eq]
  generalize (lg_sl ([.ref h0, .int (nI mn)]) ++ List.replicate (4 - (lg_sl ([.ref h0, .int (nI mn)])).length) Slot.unset).toArray = ls at hl ⊢
  have hl : lv_has ls 4 [(0, .ref h0), (1, .int (nI mn))] := hl
  generalize ([] : List Loc) = locs at hS ⊢
  have hinX6 : ∀ w ∈ wsX60, w ∈ wsX6_pass := by decide +kernel
  have hf95 := hts (.fieldLink RX6 95 "BrightbandModel" "minute" "I") (by decide +kernel)
  refine lv_iload_n hx hb dX6_pass_0 rfl (lv_at hl 1 rfl) ?_
  refine lv_iconst (v := nI 1) hx hb dX6_pass_1 (by decide) ?_
  refine lv_bipush (v := nI 60) hx hb dX6_pass_2 (by decide) ?_
  refine cr_i (wc := []) (w1 := []) (ws2 := [(h0, .inr (6, [.int (nI thr), .int (nI mi), .int (nI me), .int (nI dp), .int (bI up), .int (nI dn), .ref ma, .ref mx, .ref mh, .ref mg, .ref mc, .ref mo, .ref mr, .ref mf, .long wp, .long wl, .int (nI ru), .int (nI sm), .ref mk, .ref ml]))]) hP hD hS hA [] rfl rfl rfl (va_runS (As := [.int (nI mn), .int (nI 1), .int (nI 60)]) (rest := []) ⟨hx, hb, hml, hown, hts⟩ (c_X6_in_T l D cI cJ cZ mn 1 60 (by omega) (by omega) (by omega) H.size) (va_cwS 3 hts gX6_pass_X6_in rfl rfl rfl (by decide +kernel) ⟨Nat.le_of_ble_eq_true rfl, Nat.le_of_ble_eq_true rfl⟩) (pvS hT hP hD [] rfl rfl) rfl rfl hl.1 rfl (lv_room (Nat.le_of_ble_eq_true rfl)) dX6_pass_4 ⟨Nat.zero_le _, Nat.zero_le _⟩) (fun H locs hP hD hS => ?_)
  refine lv_istore_n (lv' := [(2, .int (bI true)), (0, .ref h0), (1, .int (nI mn))]) hx hb dX6_pass_7 rfl hl (by decide) rfl (fun ls hl => ?_)
  refine lv_aload_n hx hb dX6_pass_8 rfl (lv_at hl 1 rfl) ?_
  refine lv_iload_n hx hb dX6_pass_9 rfl (lv_at hl 0 rfl) ?_
  refine cb_ne (tgt := 17) hx hb dX6_pass_10 (by decide) (fun c_10 => ?_) (fun c_10 => absurd c_10 (by decide))
  refine lv_aload_n hx hb dX6_pass_17 rfl (lv_at hl 1 rfl) ?_
  refine va_get (D := D) (ci := 6) (v := .int (nI mi)) (C := RX6) (T := TX6) (N := 20) hx hb hts hinX6 hown hK hP 0 rfl rfl 1 (by decide) hf95 (fun _ h9 => h9) rfl dX6_pass_18 ?_
  refine lv_iload_n hx hb dX6_pass_21 rfl (lv_at hl 2 rfl) ?_
  refine lv_iadd hx hb dX6_pass_22 ?_
  refine tp_i (nI_add _ _) ?_
  refine lv_sipush (v := nI 600) hx hb dX6_pass_23 (by decide) ?_
  refine ci_le (tgt := 33) hx hb dX6_pass_26 (by decide) (nT (by omega)) (nT (by omega)) (fun c_26 => by omega) (fun c_26 => ?_)
  refine lv_iconst (v := nI 2) hx hb dX6_pass_29 (by decide) ?_
  refine lv_goto (tgt := 34) hx hb dX6_pass_30 (by decide) ?_
  refine cr_i (wc := [(h0, .inr (6, [.int (nI thr), .int (nI mi), .int (nI me), .int (nI dp), .int (bI up), .int (nI dn), .ref ma, .ref mx, .ref mh, .ref mg, .ref mc, .ref mo, .ref mr, .ref mf, .long wp, .long wl, .int (nI ru), .int (nI sm), .ref mk, .ref ml]))]) (w1 := [(h0, .inr (6, [.int (nI 2), .int (nI mi), .int (nI me), .int (nI dp), .int (bI up), .int (nI dn), .ref ma, .ref mx, .ref mh, .ref mg, .ref mc, .ref mo, .ref mr, .ref mf, .long wp, .long wl, .int (nI ru), .int (nI sm), .ref mk, .ref ml]))]) (ws2 := [(h0, .inr (6, [.int (nI 2), .int (nI mi), .int (nI me), .int (nI dp), .int (bI up), .int (nI dn), .ref ma, .ref mx, .ref mh, .ref mg, .ref mc, .ref mo, .ref mr, .ref mf, .long wp, .long wl, .int (nI ru), .int (nI sm), .ref mk, .ref ml]))]) hP hD hS hA [0] rfl rfl rfl (va_runV (As := [.int (nI 2)]) (rest := []) ⟨hx, hb, hml, hown, hts⟩ (c_X6_goesWell_no l D cI cJ cZ h0 thr mi me dp up dn ma mx mh mg mc mo mr mf mk ml wp wl ru sm 2 (by omega) (by omega) H.size) (cwV 1 hts gX6_pass_X6_goesWell rfl rfl rfl (by decide +kernel) ⟨Nat.le_of_ble_eq_true rfl, Nat.le_of_ble_eq_true rfl⟩) (pvV hT hP hD [0] rfl rfl 0 rfl rfl) rfl rfl hl.1 rfl (lv_room (Nat.le_of_ble_eq_true rfl)) dX6_pass_34 ⟨Nat.zero_le _, Nat.zero_le _⟩) (fun H locs hP hD hS => ?_)
  refine cb_ne (tgt := 42) hx hb dX6_pass_37 (by decide) (fun c_37 => absurd c_37 (by decide)) (fun c_37 => ?_)
  refine lv_iconst (v := nI 0) hx hb dX6_pass_40 (by decide) ?_
  exact fin_i hx hb hr hlocks hP hD hS (rfl) dX6_pass_41
set_option maxHeartbeats 4000000 in
set_option maxRecDepth 100000 in
theorem c_X6_scan_b0 (l : Launch) (D : va_G) (cI cJ cZ : ClassId) (h0 : Nat) (thr : Nat) (mi : Nat) (me : Nat) (dp : Nat) (up : Bool) (dn : Nat) (ma : Nat) (mx : Nat) (mh : Nat) (mg : Nat) (mc : Nat) (mo : Nat) (mr : Nat) (mf : Nat) (mk : Nat) (ml : Nat) (wp : Int64) (wl : Int64) (ru : Nat) (sm : Nat) (x0 : Int32) (hbad : x0.toInt < 0 ∨ 3 < x0.toInt) (sz : Nat) : Met l yX6_scan wsX6_scan ({ frames := 2, cells := 0, slots := 0, locals := 42 } : Room) (va_Pc [.ref h0, .int x0] (mPre D cI cJ cZ [(h0, .inr (6, [.int (nI thr), .int (nI mi), .int (nI me), .int (nI dp), .int (bI up), .int (nI dn), .ref ma, .ref mx, .ref mh, .ref mg, .ref mc, .ref mo, .ref mr, .ref mf, .long wp, .long wl, .int (nI ru), .int (nI sm), .ref mk, .ref ml]))] sz)) (Qi9 D (va_A [(h0, .inr (6, [.int (nI thr), .int (nI mi), .int (nI me), .int (nI dp), .int (bI up), .int (nI dn), .ref ma, .ref mx, .ref mh, .ref mg, .ref mc, .ref mo, .ref mr, .ref mf, .long wp, .long wl, .int (nI ru), .int (nI sm), .ref mk, .ref ml]))] sz) [(h0, .inr (6, [.int (nI 1), .int (nI mi), .int (nI me), .int (nI dp), .int (bI up), .int (nI dn), .ref ma, .ref mx, .ref mh, .ref mg, .ref mc, .ref mo, .ref mr, .ref mf, .long wp, .long wl, .int (nI ru), .int (nI sm), .ref mk, .ref ml]))] (nI 0)) 0 0 (va_A [(h0, .inr (6, [.int (nI thr), .int (nI mi), .int (nI me), .int (nI dp), .int (bI up), .int (nI dn), .ref ma, .ref mx, .ref mh, .ref mg, .ref mc, .ref mo, .ref mr, .ref mf, .long wp, .long wl, .int (nI ru), .int (nI sm), .ref mk, .ref ml]))] sz) := by
  refine Met.ofW (cc := cX6_scan) (maxL := 6) (ret := (some .int)) (by decide) rfl ?_
  intro p e s m args below meth c s₁ B hml hv
  obtain ⟨hargs, hsz, hP, hT, hD0⟩ := hv
  have hx := B.exec
  have hb := B.bytes
  have hr := B.returns
  have hts := atoms_spec (ws := wsX6_scan) B.pre
  have hown : s.vm.findClass RX6 = some m.cls := findClass_of_methodNamed B.named
  have hlocks := B.notSynchronized
  subst hsz
  have hK := hT.1
  have hD := hD0.self (sz := s.heap.size)
  generalize hAe : va_A [(h0, .inr (6, [.int (nI thr), .int (nI mi), .int (nI me), .int (nI dp), .int (bI up), .int (nI dn), .ref ma, .ref mx, .ref mh, .ref mg, .ref mc, .ref mo, .ref mr, .ref mf, .long wp, .long wl, .int (nI ru), .int (nI sm), .ref mk, .ref ml]))] s.heap.size = A at hD ⊢
  have hA : ∀ q : Nat, s.heap.size ≤ q → A q := fun q h => by rw [← hAe]; exact Or.inr h
  have hS : va_S A s.heap s.heap [] := va_S.rf
  obtain ⟨H, hHe⟩ : ∃ H : Heap, H = s.heap := ⟨_, rfl⟩
  have hS : va_S A s.heap H [] := by rw [hHe]; exact va_S.rf
  rw [← hHe] at hP
  suffices K0 : W p l e (headSpec wsX6_scan ({ frames := 2, cells := 0, slots := 0, locals := 42 } : Room)).room s m args below meth c H [] 0 0 (MQ below (Qi9 D A [(h0, .inr (6, [.int (nI 1), .int (nI mi), .int (nI me), .int (nI dp), .int (bI up), .int (nI dn), .ref ma, .ref mx, .ref mh, .ref mg, .ref mc, .ref mo, .ref mr, .ref mf, .long wp, .long wl, .int (nI ru), .int (nI sm), .ref mk, .ref ml]))] (nI 0)) args s 0 0 A) (entryFrame m args 6) by rw [hHe] at K0; exact K0
  refine W.eq (g2 := entryFrame m ([.ref h0, .int x0] : List Value).toArray 6) (by rw [hargs]) ?_
  have hl := lv_entry ([.ref h0, .int x0]) (n := 6) (Nat.le_of_ble_eq_true rfl)
  rw [lg_entry_eq]
  generalize (lg_sl ([.ref h0, .int x0]) ++ List.replicate (6 - (lg_sl ([.ref h0, .int x0])).length) Slot.unset).toArray = ls at hl ⊢
  have hl : lv_has ls 6 [(0, .ref h0), (1, .int x0)] := hl
  generalize ([] : List Loc) = locs at hS ⊢
  refine lv_iload_n hx hb dX6_scan_0 rfl (lv_at hl 1 rfl) ?_
  refine cr_i (wc := []) (w1 := []) (ws2 := [(h0, .inr (6, [.int (nI thr), .int (nI mi), .int (nI me), .int (nI dp), .int (bI up), .int (nI dn), .ref ma, .ref mx, .ref mh, .ref mg, .ref mc, .ref mo, .ref mr, .ref mf, .long wp, .long wl, .int (nI ru), .int (nI sm), .ref mk, .ref ml]))]) hP hD hS hA [] rfl rfl rfl (va_runS (As := [.int x0]) (rest := []) ⟨hx, hb, hml, hown, hts⟩ (c_X6_isElevation_F l D cI cJ cZ x0 (by omega) H.size) (va_cwS 1 hts gX6_scan_X6_isElevation rfl rfl rfl (by decide +kernel) ⟨Nat.le_of_ble_eq_true rfl, Nat.le_of_ble_eq_true rfl⟩) (pvS hT hP hD [] rfl rfl) rfl rfl hl.1 rfl (lv_room (Nat.le_of_ble_eq_true rfl)) dX6_scan_1 ⟨Nat.zero_le _, Nat.zero_le _⟩) (fun H locs hP hD hS => ?_)
  refine lv_istore_n (lv' := [(2, .int (bI false)), (0, .ref h0), (1, .int x0)]) hx hb dX6_scan_4 rfl hl (by decide) rfl (fun ls hl => ?_)
  refine lv_aload_n hx hb dX6_scan_5 rfl (lv_at hl 1 rfl) ?_
  refine lv_iload_n hx hb dX6_scan_6 rfl (lv_at hl 0 rfl) ?_
  refine cb_ne (tgt := 14) hx hb dX6_scan_7 (by decide) (fun c_7 => absurd c_7 (by decide)) (fun c_7 => ?_)
  refine lv_iconst (v := nI 1) hx hb dX6_scan_10 (by decide) ?_
  refine lv_goto (tgt := 28) hx hb dX6_scan_11 (by decide) ?_
  refine cr_i (wc := [(h0, .inr (6, [.int (nI thr), .int (nI mi), .int (nI me), .int (nI dp), .int (bI up), .int (nI dn), .ref ma, .ref mx, .ref mh, .ref mg, .ref mc, .ref mo, .ref mr, .ref mf, .long wp, .long wl, .int (nI ru), .int (nI sm), .ref mk, .ref ml]))]) (w1 := [(h0, .inr (6, [.int (nI 1), .int (nI mi), .int (nI me), .int (nI dp), .int (bI up), .int (nI dn), .ref ma, .ref mx, .ref mh, .ref mg, .ref mc, .ref mo, .ref mr, .ref mf, .long wp, .long wl, .int (nI ru), .int (nI sm), .ref mk, .ref ml]))]) (ws2 := [(h0, .inr (6, [.int (nI 1), .int (nI mi), .int (nI me), .int (nI dp), .int (bI up), .int (nI dn), .ref ma, .ref mx, .ref mh, .ref mg, .ref mc, .ref mo, .ref mr, .ref mf, .long wp, .long wl, .int (nI ru), .int (nI sm), .ref mk, .ref ml]))]) hP hD hS hA [0] rfl rfl rfl (va_runV (As := [.int (nI 1)]) (rest := []) ⟨hx, hb, hml, hown, hts⟩ (c_X6_goesWell_no l D cI cJ cZ h0 thr mi me dp up dn ma mx mh mg mc mo mr mf mk ml wp wl ru sm 1 (by omega) (by omega) H.size) (cwV 1 hts gX6_scan_X6_goesWell rfl rfl rfl (by decide +kernel) ⟨Nat.le_of_ble_eq_true rfl, Nat.le_of_ble_eq_true rfl⟩) (pvV hT hP hD [0] rfl rfl 0 rfl rfl) rfl rfl hl.1 rfl (lv_room (Nat.le_of_ble_eq_true rfl)) dX6_scan_28 ⟨Nat.zero_le _, Nat.zero_le _⟩) (fun H locs hP hD hS => ?_)
  refine cb_ne (tgt := 36) hx hb dX6_scan_31 (by decide) (fun c_31 => absurd c_31 (by decide)) (fun c_31 => ?_)
  refine lv_iconst (v := nI 0) hx hb dX6_scan_34 (by decide) ?_
  exact fin_i hx hb hr hlocks hP hD hS (rfl) dX6_scan_35
set_option maxHeartbeats 4000000 in
set_option maxRecDepth 100000 in
theorem c_X6_scan_b1 (l : Launch) (D : va_G) (cI cJ cZ : ClassId) (h0 : Nat) (thr : Nat) (mi : Nat) (me : Nat) (dp : Nat) (up : Bool) (dn : Nat) (ma : Nat) (mx : Nat) (mh : Nat) (mg : Nat) (mc : Nat) (mo : Nat) (mr : Nat) (mf : Nat) (mk : Nat) (ml : Nat) (wp : Int64) (wl : Int64) (ru : Nat) (sm : Nat) (ev : Nat) (h2ev : ev ≤ 3) (hsm : sm = 30) (sz : Nat) : Met l yX6_scan wsX6_scan ({ frames := 2, cells := 0, slots := 0, locals := 42 } : Room) (va_Pc [.ref h0, .int (nI ev)] (mPre D cI cJ cZ [(h0, .inr (6, [.int (nI thr), .int (nI mi), .int (nI me), .int (nI dp), .int (bI up), .int (nI dn), .ref ma, .ref mx, .ref mh, .ref mg, .ref mc, .ref mo, .ref mr, .ref mf, .long wp, .long wl, .int (nI ru), .int (nI sm), .ref mk, .ref ml]))] sz)) (Qi9 D (va_A [(h0, .inr (6, [.int (nI thr), .int (nI mi), .int (nI me), .int (nI dp), .int (bI up), .int (nI dn), .ref ma, .ref mx, .ref mh, .ref mg, .ref mc, .ref mo, .ref mr, .ref mf, .long wp, .long wl, .int (nI ru), .int (nI sm), .ref mk, .ref ml]))] sz) [(h0, .inr (6, [.int (nI 2), .int (nI mi), .int (nI me), .int (nI dp), .int (bI up), .int (nI dn), .ref ma, .ref mx, .ref mh, .ref mg, .ref mc, .ref mo, .ref mr, .ref mf, .long wp, .long wl, .int (nI ru), .int (nI sm), .ref mk, .ref ml]))] (nI 0)) 0 0 (va_A [(h0, .inr (6, [.int (nI thr), .int (nI mi), .int (nI me), .int (nI dp), .int (bI up), .int (nI dn), .ref ma, .ref mx, .ref mh, .ref mg, .ref mc, .ref mo, .ref mr, .ref mf, .long wp, .long wl, .int (nI ru), .int (nI sm), .ref mk, .ref ml]))] sz) := by
  refine Met.ofW (cc := cX6_scan) (maxL := 6) (ret := (some .int)) (by decide) rfl ?_
  intro p e s m args below meth c s₁ B hml hv
  obtain ⟨hargs, hsz, hP, hT, hD0⟩ := hv
  have hx := B.exec
  have hb := B.bytes
  have hr := B.returns
  have hts := atoms_spec (ws := wsX6_scan) B.pre
  have hown : s.vm.findClass RX6 = some m.cls := findClass_of_methodNamed B.named
  have hlocks := B.notSynchronized
  subst hsz
  have hK := hT.1
  have hD := hD0.self (sz := s.heap.size)
  generalize hAe : va_A [(h0, .inr (6, [.int (nI thr), .int (nI mi), .int (nI me), .int (nI dp), .int (bI up), .int (nI dn), .ref ma, .ref mx, .ref mh, .ref mg, .ref mc, .ref mo, .ref mr, .ref mf, .long wp, .long wl, .int (nI ru), .int (nI sm), .ref mk, .ref ml]))] s.heap.size = A at hD ⊢
  have hA : ∀ q : Nat, s.heap.size ≤ q → A q := fun q h => by rw [← hAe]; exact Or.inr h
  have hS : va_S A s.heap s.heap [] := va_S.rf
  obtain ⟨H, hHe⟩ : ∃ H : Heap, H = s.heap := ⟨_, rfl⟩
  have hS : va_S A s.heap H [] := by rw [hHe]; exact va_S.rf
  rw [← hHe] at hP
  suffices K0 : W p l e (headSpec wsX6_scan ({ frames := 2, cells := 0, slots := 0, locals := 42 } : Room)).room s m args below meth c H [] 0 0 (MQ below (Qi9 D A [(h0, .inr (6, [.int (nI 2), .int (nI mi), .int (nI me), .int (nI dp), .int (bI up), .int (nI dn), .ref ma, .ref mx, .ref mh, .ref mg, .ref mc, .ref mo, .ref mr, .ref mf, .long wp, .long wl, .int (nI ru), .int (nI sm), .ref mk, .ref ml]))] (nI 0)) args s 0 0 A) (entryFrame m args 6) by rw [hHe] at K0; exact K0
  refine W.eq (g2 := entryFrame m ([.ref h0, .int (nI ev)] : List Value).toArray 6) (by rw [hargs]) ?_
  have hl := lv_entry ([.ref h0, .int (nI ev)]) (n := 6) (Nat.le_of_ble_eq_true rfl)
  rw [lg_entry_eq]
  generalize (lg_sl ([.ref h0, .int (nI ev)]) ++ List.replicate (6 - (lg_sl ([.ref h0, .int (nI ev)])).length) Slot.unset).toArray = ls at hl ⊢
  have hl : lv_has ls 6 [(0, .ref h0), (1, .int (nI ev))] := hl
  generalize ([] : List Loc) = locs at hS ⊢
  have hinX6 : ∀ w ∈ wsX60, w ∈ wsX6_scan := by decide +kernel
  have hf151 := hts (.fieldLink RX6 151 "BrightbandModel" "scans" "I") (by decide +kernel)
  refine lv_iload_n hx hb dX6_scan_0 rfl (lv_at hl 1 rfl) ?_
  refine cr_i (wc := []) (w1 := []) (ws2 := [(h0, .inr (6, [.int (nI thr), .int (nI mi), .int (nI me), .int (nI dp), .int (bI up), .int (nI dn), .ref ma, .ref mx, .ref mh, .ref mg, .ref mc, .ref mo, .ref mr, .ref mf, .long wp, .long wl, .int (nI ru), .int (nI sm), .ref mk, .ref ml]))]) hP hD hS hA [] rfl rfl rfl (va_runS (As := [.int (nI ev)]) (rest := []) ⟨hx, hb, hml, hown, hts⟩ (c_X6_isElevation_T l D cI cJ cZ ev (by omega) H.size) (va_cwS 1 hts gX6_scan_X6_isElevation rfl rfl rfl (by decide +kernel) ⟨Nat.le_of_ble_eq_true rfl, Nat.le_of_ble_eq_true rfl⟩) (pvS hT hP hD [] rfl rfl) rfl rfl hl.1 rfl (lv_room (Nat.le_of_ble_eq_true rfl)) dX6_scan_1 ⟨Nat.zero_le _, Nat.zero_le _⟩) (fun H locs hP hD hS => ?_)
  refine lv_istore_n (lv' := [(2, .int (bI true)), (0, .ref h0), (1, .int (nI ev))]) hx hb dX6_scan_4 rfl hl (by decide) rfl (fun ls hl => ?_)
  refine lv_aload_n hx hb dX6_scan_5 rfl (lv_at hl 1 rfl) ?_
  refine lv_iload_n hx hb dX6_scan_6 rfl (lv_at hl 0 rfl) ?_
  refine cb_ne (tgt := 14) hx hb dX6_scan_7 (by decide) (fun c_7 => ?_) (fun c_7 => absurd c_7 (by decide))
  refine lv_aload_n hx hb dX6_scan_14 rfl (lv_at hl 1 rfl) ?_
  refine va_get (D := D) (ci := 6) (v := .int (nI sm)) (C := RX6) (T := TX6) (N := 20) hx hb hts hinX6 hown hK hP 0 rfl rfl 17 (by decide) hf151 (fun _ h9 => h9) rfl dX6_scan_15 ?_
  refine lv_bipush (v := nI 30) hx hb dX6_scan_18 (by decide) ?_
  refine ci_ne (tgt := 27) hx hb dX6_scan_20 (by decide) (nT (by omega)) (nT (by omega)) (fun c_20 => by omega) (fun c_20 => ?_)
  refine lv_iconst (v := nI 2) hx hb dX6_scan_23 (by decide) ?_
  refine lv_goto (tgt := 28) hx hb dX6_scan_24 (by decide) ?_
  refine cr_i (wc := [(h0, .inr (6, [.int (nI thr), .int (nI mi), .int (nI me), .int (nI dp), .int (bI up), .int (nI dn), .ref ma, .ref mx, .ref mh, .ref mg, .ref mc, .ref mo, .ref mr, .ref mf, .long wp, .long wl, .int (nI ru), .int (nI sm), .ref mk, .ref ml]))]) (w1 := [(h0, .inr (6, [.int (nI 2), .int (nI mi), .int (nI me), .int (nI dp), .int (bI up), .int (nI dn), .ref ma, .ref mx, .ref mh, .ref mg, .ref mc, .ref mo, .ref mr, .ref mf, .long wp, .long wl, .int (nI ru), .int (nI sm), .ref mk, .ref ml]))]) (ws2 := [(h0, .inr (6, [.int (nI 2), .int (nI mi), .int (nI me), .int (nI dp), .int (bI up), .int (nI dn), .ref ma, .ref mx, .ref mh, .ref mg, .ref mc, .ref mo, .ref mr, .ref mf, .long wp, .long wl, .int (nI ru), .int (nI sm), .ref mk, .ref ml]))]) hP hD hS hA [0] rfl rfl rfl (va_runV (As := [.int (nI 2)]) (rest := []) ⟨hx, hb, hml, hown, hts⟩ (c_X6_goesWell_no l D cI cJ cZ h0 thr mi me dp up dn ma mx mh mg mc mo mr mf mk ml wp wl ru sm 2 (by omega) (by omega) H.size) (cwV 1 hts gX6_scan_X6_goesWell rfl rfl rfl (by decide +kernel) ⟨Nat.le_of_ble_eq_true rfl, Nat.le_of_ble_eq_true rfl⟩) (pvV hT hP hD [0] rfl rfl 0 rfl rfl) rfl rfl hl.1 rfl (lv_room (Nat.le_of_ble_eq_true rfl)) dX6_scan_28 ⟨Nat.zero_le _, Nat.zero_le _⟩) (fun H locs hP hD hS => ?_)
  refine cb_ne (tgt := 36) hx hb dX6_scan_31 (by decide) (fun c_31 => absurd c_31 (by decide)) (fun c_31 => ?_)
  refine lv_iconst (v := nI 0) hx hb dX6_scan_34 (by decide) ?_
  exact fin_i hx hb hr hlocks hP hD hS (rfl) dX6_scan_35
set_option maxHeartbeats 4000000 in
set_option maxRecDepth 100000 in
theorem c_X6_rule_b0 (l : Launch) (D : va_G) (cI cJ cZ : ClassId) (h0 : Nat) (thr : Nat) (mi : Nat) (me : Nat) (dp : Nat) (up : Bool) (dn : Nat) (ma : Nat) (mx : Nat) (mh : Nat) (mg : Nat) (mc : Nat) (mo : Nat) (mr : Nat) (mf : Nat) (mk : Nat) (ml : Nat) (wp : Int64) (wl : Int64) (ru : Nat) (sm : Nat) (x0 : Int32) (hbad : x0.toInt < 1 ∨ 1000 < x0.toInt) (sz : Nat) : Met l yX6_rule wsX6_rule ({ frames := 1, cells := 0, slots := 0, locals := 22 } : Room) (va_Pc [.ref h0, .int x0] (mPre D cI cJ cZ [(h0, .inr (6, [.int (nI thr), .int (nI mi), .int (nI me), .int (nI dp), .int (bI up), .int (nI dn), .ref ma, .ref mx, .ref mh, .ref mg, .ref mc, .ref mo, .ref mr, .ref mf, .long wp, .long wl, .int (nI ru), .int (nI sm), .ref mk, .ref ml]))] sz)) (Qi9 D (va_A [(h0, .inr (6, [.int (nI thr), .int (nI mi), .int (nI me), .int (nI dp), .int (bI up), .int (nI dn), .ref ma, .ref mx, .ref mh, .ref mg, .ref mc, .ref mo, .ref mr, .ref mf, .long wp, .long wl, .int (nI ru), .int (nI sm), .ref mk, .ref ml]))] sz) [(h0, .inr (6, [.int (nI 1), .int (nI mi), .int (nI me), .int (nI dp), .int (bI up), .int (nI dn), .ref ma, .ref mx, .ref mh, .ref mg, .ref mc, .ref mo, .ref mr, .ref mf, .long wp, .long wl, .int (nI ru), .int (nI sm), .ref mk, .ref ml]))] (nI 0)) 0 0 (va_A [(h0, .inr (6, [.int (nI thr), .int (nI mi), .int (nI me), .int (nI dp), .int (bI up), .int (nI dn), .ref ma, .ref mx, .ref mh, .ref mg, .ref mc, .ref mo, .ref mr, .ref mf, .long wp, .long wl, .int (nI ru), .int (nI sm), .ref mk, .ref ml]))] sz) := by
  refine Met.ofW (cc := cX6_rule) (maxL := 3) (ret := (some .int)) (by decide) rfl ?_
  intro p e s m args below meth c s₁ B hml hv
  obtain ⟨hargs, hsz, hP, hT, hD0⟩ := hv
  have hx := B.exec
  have hb := B.bytes
  have hr := B.returns
  have hts := atoms_spec (ws := wsX6_rule) B.pre
  have hown : s.vm.findClass RX6 = some m.cls := findClass_of_methodNamed B.named
  have hlocks := B.notSynchronized
  subst hsz
  have hK := hT.1
  have hD := hD0.self (sz := s.heap.size)
  generalize hAe : va_A [(h0, .inr (6, [.int (nI thr), .int (nI mi), .int (nI me), .int (nI dp), .int (bI up), .int (nI dn), .ref ma, .ref mx, .ref mh, .ref mg, .ref mc, .ref mo, .ref mr, .ref mf, .long wp, .long wl, .int (nI ru), .int (nI sm), .ref mk, .ref ml]))] s.heap.size = A at hD ⊢
  have hA : ∀ q : Nat, s.heap.size ≤ q → A q := fun q h => by rw [← hAe]; exact Or.inr h
  have hS : va_S A s.heap s.heap [] := va_S.rf
  obtain ⟨H, hHe⟩ : ∃ H : Heap, H = s.heap := ⟨_, rfl⟩
  have hS : va_S A s.heap H [] := by rw [hHe]; exact va_S.rf
  rw [← hHe] at hP
  suffices K0 : W p l e (headSpec wsX6_rule ({ frames := 1, cells := 0, slots := 0, locals := 22 } : Room)).room s m args below meth c H [] 0 0 (MQ below (Qi9 D A [(h0, .inr (6, [.int (nI 1), .int (nI mi), .int (nI me), .int (nI dp), .int (bI up), .int (nI dn), .ref ma, .ref mx, .ref mh, .ref mg, .ref mc, .ref mo, .ref mr, .ref mf, .long wp, .long wl, .int (nI ru), .int (nI sm), .ref mk, .ref ml]))] (nI 0)) args s 0 0 A) (entryFrame m args 3) by rw [hHe] at K0; exact K0
  refine W.eq (g2 := entryFrame m ([.ref h0, .int x0] : List Value).toArray 3) (by rw [hargs]) ?_
  have hl := lv_entry ([.ref h0, .int x0]) (n := 3) (Nat.le_of_ble_eq_true rfl)
  rw [lg_entry_eq]
  generalize (lg_sl ([.ref h0, .int x0]) ++ List.replicate (3 - (lg_sl ([.ref h0, .int x0])).length) Slot.unset).toArray = ls at hl ⊢
  have hl : lv_has ls 3 [(0, .ref h0), (1, .int x0)] := hl
  generalize ([] : List Loc) = locs at hS ⊢
  refine lv_aload_n hx hb dX6_rule_0 rfl (lv_at hl 0 rfl) ?_
  refine lv_iload_n hx hb dX6_rule_1 rfl (lv_at hl 1 rfl) ?_
  refine lv_iconst (v := nI 1) hx hb dX6_rule_2 (by decide) ?_
  refine lv_sipush (v := nI 1000) hx hb dX6_rule_3 (by decide) ?_
  refine cr_i (wc := []) (w1 := []) (ws2 := [(h0, .inr (6, [.int (nI thr), .int (nI mi), .int (nI me), .int (nI dp), .int (bI up), .int (nI dn), .ref ma, .ref mx, .ref mh, .ref mg, .ref mc, .ref mo, .ref mr, .ref mf, .long wp, .long wl, .int (nI ru), .int (nI sm), .ref mk, .ref ml]))]) hP hD hS hA [] rfl rfl rfl (va_runS (As := [.int x0, .int (nI 1), .int (nI 1000)]) (rest := [.ref h0]) ⟨hx, hb, hml, hown, hts⟩ (c_X6_in_F l D cI cJ cZ x0 1 1000 (by omega) (by omega) (by omega) H.size) (va_cwS 3 hts gX6_rule_X6_in rfl rfl rfl (by decide +kernel) ⟨Nat.le_of_ble_eq_true rfl, Nat.le_of_ble_eq_true rfl⟩) (pvS hT hP hD [] rfl rfl) rfl rfl hl.1 rfl (lv_room (Nat.le_of_ble_eq_true rfl)) dX6_rule_6 ⟨Nat.zero_le _, Nat.zero_le _⟩) (fun H locs hP hD hS => ?_)
  refine cb_eq (tgt := 16) hx hb dX6_rule_9 (by decide) (fun c_9 => ?_) (fun c_9 => absurd c_9 (by decide))
  refine lv_iconst (v := nI 1) hx hb dX6_rule_16 (by decide) ?_
  refine cr_i (wc := [(h0, .inr (6, [.int (nI thr), .int (nI mi), .int (nI me), .int (nI dp), .int (bI up), .int (nI dn), .ref ma, .ref mx, .ref mh, .ref mg, .ref mc, .ref mo, .ref mr, .ref mf, .long wp, .long wl, .int (nI ru), .int (nI sm), .ref mk, .ref ml]))]) (w1 := [(h0, .inr (6, [.int (nI 1), .int (nI mi), .int (nI me), .int (nI dp), .int (bI up), .int (nI dn), .ref ma, .ref mx, .ref mh, .ref mg, .ref mc, .ref mo, .ref mr, .ref mf, .long wp, .long wl, .int (nI ru), .int (nI sm), .ref mk, .ref ml]))]) (ws2 := [(h0, .inr (6, [.int (nI 1), .int (nI mi), .int (nI me), .int (nI dp), .int (bI up), .int (nI dn), .ref ma, .ref mx, .ref mh, .ref mg, .ref mc, .ref mo, .ref mr, .ref mf, .long wp, .long wl, .int (nI ru), .int (nI sm), .ref mk, .ref ml]))]) hP hD hS hA [0] rfl rfl rfl (va_runV (As := [.int (nI 1)]) (rest := []) ⟨hx, hb, hml, hown, hts⟩ (c_X6_goesWell_no l D cI cJ cZ h0 thr mi me dp up dn ma mx mh mg mc mo mr mf mk ml wp wl ru sm 1 (by omega) (by omega) H.size) (cwV 1 hts gX6_rule_X6_goesWell rfl rfl rfl (by decide +kernel) ⟨Nat.le_of_ble_eq_true rfl, Nat.le_of_ble_eq_true rfl⟩) (pvV hT hP hD [0] rfl rfl 0 rfl rfl) rfl rfl hl.1 rfl (lv_room (Nat.le_of_ble_eq_true rfl)) dX6_rule_17 ⟨Nat.zero_le _, Nat.zero_le _⟩) (fun H locs hP hD hS => ?_)
  refine cb_ne (tgt := 25) hx hb dX6_rule_20 (by decide) (fun c_20 => absurd c_20 (by decide)) (fun c_20 => ?_)
  refine lv_iconst (v := nI 0) hx hb dX6_rule_23 (by decide) ?_
  exact fin_i hx hb hr hlocks hP hD hS (rfl) dX6_rule_24
set_option maxHeartbeats 4000000 in
set_option maxRecDepth 100000 in
theorem c_X6_count_b0 (l : Launch) (D : va_G) (cI cJ cZ : ClassId) (h0 : Nat) (thr : Nat) (mi : Nat) (me : Nat) (dp : Nat) (up : Bool) (dn : Nat) (ma : Nat) (mx : Nat) (mh : Nat) (mg : Nat) (mc : Nat) (mo : Nat) (mr : Nat) (mf : Nat) (mk : Nat) (ml : Nat) (wp : Int64) (wl : Int64) (ru : Nat) (sm : Nat) (x0 : Int32) (x1 : Int32) (x2 : Int32) (hbad : x0.toInt < 0 ∨ 20 ≤ x0.toInt) (sz : Nat) : Met l yX6_count wsX6_count ({ frames := 2, cells := 0, slots := 0, locals := 42 } : Room) (va_Pc [.ref h0, .int x0, .int x1, .int x2] (mPre D cI cJ cZ [(h0, .inr (6, [.int (nI thr), .int (nI mi), .int (nI me), .int (nI dp), .int (bI up), .int (nI dn), .ref ma, .ref mx, .ref mh, .ref mg, .ref mc, .ref mo, .ref mr, .ref mf, .long wp, .long wl, .int (nI ru), .int (nI sm), .ref mk, .ref ml]))] sz)) (Qi9 D (va_A [(h0, .inr (6, [.int (nI thr), .int (nI mi), .int (nI me), .int (nI dp), .int (bI up), .int (nI dn), .ref ma, .ref mx, .ref mh, .ref mg, .ref mc, .ref mo, .ref mr, .ref mf, .long wp, .long wl, .int (nI ru), .int (nI sm), .ref mk, .ref ml]))] sz) [(h0, .inr (6, [.int (nI 1), .int (nI mi), .int (nI me), .int (nI dp), .int (bI up), .int (nI dn), .ref ma, .ref mx, .ref mh, .ref mg, .ref mc, .ref mo, .ref mr, .ref mf, .long wp, .long wl, .int (nI ru), .int (nI sm), .ref mk, .ref ml]))] (nI 0)) 0 0 (va_A [(h0, .inr (6, [.int (nI thr), .int (nI mi), .int (nI me), .int (nI dp), .int (bI up), .int (nI dn), .ref ma, .ref mx, .ref mh, .ref mg, .ref mc, .ref mo, .ref mr, .ref mf, .long wp, .long wl, .int (nI ru), .int (nI sm), .ref mk, .ref ml]))] sz) := by
  refine Met.ofW (cc := cX6_count) (maxL := 5) (ret := (some .int)) (by decide) rfl ?_
  intro p e s m args below meth c s₁ B hml hv
  obtain ⟨hargs, hsz, hP, hT, hD0⟩ := hv
  have hx := B.exec
  have hb := B.bytes
  have hr := B.returns
  have hts := atoms_spec (ws := wsX6_count) B.pre
  have hown : s.vm.findClass RX6 = some m.cls := findClass_of_methodNamed B.named
  have hlocks := B.notSynchronized
  subst hsz
  have hK := hT.1
  have hD := hD0.self (sz := s.heap.size)
  generalize hAe : va_A [(h0, .inr (6, [.int (nI thr), .int (nI mi), .int (nI me), .int (nI dp), .int (bI up), .int (nI dn), .ref ma, .ref mx, .ref mh, .ref mg, .ref mc, .ref mo, .ref mr, .ref mf, .long wp, .long wl, .int (nI ru), .int (nI sm), .ref mk, .ref ml]))] s.heap.size = A at hD ⊢
  have hA : ∀ q : Nat, s.heap.size ≤ q → A q := fun q h => by rw [← hAe]; exact Or.inr h
  have hS : va_S A s.heap s.heap [] := va_S.rf
  obtain ⟨H, hHe⟩ : ∃ H : Heap, H = s.heap := ⟨_, rfl⟩
  have hS : va_S A s.heap H [] := by rw [hHe]; exact va_S.rf
  rw [← hHe] at hP
  suffices K0 : W p l e (headSpec wsX6_count ({ frames := 2, cells := 0, slots := 0, locals := 42 } : Room)).room s m args below meth c H [] 0 0 (MQ below (Qi9 D A [(h0, .inr (6, [.int (nI 1), .int (nI mi), .int (nI me), .int (nI dp), .int (bI up), .int (nI dn), .ref ma, .ref mx, .ref mh, .ref mg, .ref mc, .ref mo, .ref mr, .ref mf, .long wp, .long wl, .int (nI ru), .int (nI sm), .ref mk, .ref ml]))] (nI 0)) args s 0 0 A) (entryFrame m args 5) by rw [hHe] at K0; exact K0
  refine W.eq (g2 := entryFrame m ([.ref h0, .int x0, .int x1, .int x2] : List Value).toArray 5) (by rw [hargs]) ?_
  have hl := lv_entry ([.ref h0, .int x0, .int x1, .int x2]) (n := 5) (Nat.le_of_ble_eq_true rfl)
  rw [lg_entry_eq]
  generalize (lg_sl ([.ref h0, .int x0, .int x1, .int x2]) ++ List.replicate (5 - (lg_sl ([.ref h0, .int x0, .int x1, .int x2])).length) Slot.unset).toArray = ls at hl ⊢
  have hl : lv_has ls 5 [(0, .ref h0), (1, .int x0), (2, .int x1), (3, .int x2)] := hl
  generalize ([] : List Loc) = locs at hS ⊢
  refine lv_iload_n hx hb dX6_count_0 rfl (lv_at hl 1 rfl) ?_
  refine cr_i (wc := []) (w1 := []) (ws2 := [(h0, .inr (6, [.int (nI thr), .int (nI mi), .int (nI me), .int (nI dp), .int (bI up), .int (nI dn), .ref ma, .ref mx, .ref mh, .ref mg, .ref mc, .ref mo, .ref mr, .ref mf, .long wp, .long wl, .int (nI ru), .int (nI sm), .ref mk, .ref ml]))]) hP hD hS hA [] rfl rfl rfl (va_runS (As := [.int x0]) (rest := []) ⟨hx, hb, hml, hown, hts⟩ (c_X6_isPlace_F l D cI cJ cZ x0 (by omega) H.size) (va_cwS 1 hts gX6_count_X6_isPlace rfl rfl rfl (by decide +kernel) ⟨Nat.le_of_ble_eq_true rfl, Nat.le_of_ble_eq_true rfl⟩) (pvS hT hP hD [] rfl rfl) rfl rfl hl.1 rfl (lv_room (Nat.le_of_ble_eq_true rfl)) dX6_count_1 ⟨Nat.zero_le _, Nat.zero_le _⟩) (fun H locs hP hD hS => ?_)
  refine cb_eq (tgt := 18) hx hb dX6_count_4 (by decide) (fun c_4 => ?_) (fun c_4 => absurd c_4 (by decide))
  refine lv_iconst (v := nI 0) hx hb dX6_count_18 (by decide) ?_
  refine lv_istore (lv' := [(4, .int (nI 0)), (0, .ref h0), (1, .int x0), (2, .int x1), (3, .int x2)]) hx hb dX6_count_19 hl (by decide) rfl (fun ls hl => ?_)
  refine lv_aload_n hx hb dX6_count_21 rfl (lv_at hl 1 rfl) ?_
  refine lv_iload hx hb dX6_count_22 (lv_at hl 0 rfl) ?_
  refine c0_ne (tgt := 31) hx hb dX6_count_24 (by decide) (nT (by omega)) (fun c_24 => by omega) (fun c_24 => ?_)
  refine lv_iconst (v := nI 1) hx hb dX6_count_27 (by decide) ?_
  refine lv_goto (tgt := 45) hx hb dX6_count_28 (by decide) ?_
  refine cr_i (wc := [(h0, .inr (6, [.int (nI thr), .int (nI mi), .int (nI me), .int (nI dp), .int (bI up), .int (nI dn), .ref ma, .ref mx, .ref mh, .ref mg, .ref mc, .ref mo, .ref mr, .ref mf, .long wp, .long wl, .int (nI ru), .int (nI sm), .ref mk, .ref ml]))]) (w1 := [(h0, .inr (6, [.int (nI 1), .int (nI mi), .int (nI me), .int (nI dp), .int (bI up), .int (nI dn), .ref ma, .ref mx, .ref mh, .ref mg, .ref mc, .ref mo, .ref mr, .ref mf, .long wp, .long wl, .int (nI ru), .int (nI sm), .ref mk, .ref ml]))]) (ws2 := [(h0, .inr (6, [.int (nI 1), .int (nI mi), .int (nI me), .int (nI dp), .int (bI up), .int (nI dn), .ref ma, .ref mx, .ref mh, .ref mg, .ref mc, .ref mo, .ref mr, .ref mf, .long wp, .long wl, .int (nI ru), .int (nI sm), .ref mk, .ref ml]))]) hP hD hS hA [0] rfl rfl rfl (va_runV (As := [.int (nI 1)]) (rest := []) ⟨hx, hb, hml, hown, hts⟩ (c_X6_goesWell_no l D cI cJ cZ h0 thr mi me dp up dn ma mx mh mg mc mo mr mf mk ml wp wl ru sm 1 (by omega) (by omega) H.size) (cwV 1 hts gX6_count_X6_goesWell rfl rfl rfl (by decide +kernel) ⟨Nat.le_of_ble_eq_true rfl, Nat.le_of_ble_eq_true rfl⟩) (pvV hT hP hD [0] rfl rfl 0 rfl rfl) rfl rfl hl.1 rfl (lv_room (Nat.le_of_ble_eq_true rfl)) dX6_count_45 ⟨Nat.zero_le _, Nat.zero_le _⟩) (fun H locs hP hD hS => ?_)
  refine cb_ne (tgt := 53) hx hb dX6_count_48 (by decide) (fun c_48 => absurd c_48 (by decide)) (fun c_48 => ?_)
  refine lv_iconst (v := nI 0) hx hb dX6_count_51 (by decide) ?_
  exact fin_i hx hb hr hlocks hP hD hS (rfl) dX6_count_52
set_option maxHeartbeats 4000000 in
set_option maxRecDepth 100000 in
theorem c_X6_count_b1 (l : Launch) (D : va_G) (cI cJ cZ : ClassId) (h0 : Nat) (thr : Nat) (mi : Nat) (me : Nat) (dp : Nat) (up : Bool) (dn : Nat) (ma : Nat) (mx : Nat) (mh : Nat) (mg : Nat) (mc : Nat) (mo : Nat) (mr : Nat) (mf : Nat) (mk : Nat) (ml : Nat) (wp : Int64) (wl : Int64) (ru : Nat) (sm : Nat) (ki : Nat) (x1 : Int32) (x2 : Int32) (hki : ki < 20) (hbad : x1.toInt < 0 ∨ 10 ≤ x1.toInt) (sz : Nat) : Met l yX6_count wsX6_count ({ frames := 2, cells := 0, slots := 0, locals := 42 } : Room) (va_Pc [.ref h0, .int (nI ki), .int x1, .int x2] (mPre D cI cJ cZ [(h0, .inr (6, [.int (nI thr), .int (nI mi), .int (nI me), .int (nI dp), .int (bI up), .int (nI dn), .ref ma, .ref mx, .ref mh, .ref mg, .ref mc, .ref mo, .ref mr, .ref mf, .long wp, .long wl, .int (nI ru), .int (nI sm), .ref mk, .ref ml]))] sz)) (Qi9 D (va_A [(h0, .inr (6, [.int (nI thr), .int (nI mi), .int (nI me), .int (nI dp), .int (bI up), .int (nI dn), .ref ma, .ref mx, .ref mh, .ref mg, .ref mc, .ref mo, .ref mr, .ref mf, .long wp, .long wl, .int (nI ru), .int (nI sm), .ref mk, .ref ml]))] sz) [(h0, .inr (6, [.int (nI 1), .int (nI mi), .int (nI me), .int (nI dp), .int (bI up), .int (nI dn), .ref ma, .ref mx, .ref mh, .ref mg, .ref mc, .ref mo, .ref mr, .ref mf, .long wp, .long wl, .int (nI ru), .int (nI sm), .ref mk, .ref ml]))] (nI 0)) 0 0 (va_A [(h0, .inr (6, [.int (nI thr), .int (nI mi), .int (nI me), .int (nI dp), .int (bI up), .int (nI dn), .ref ma, .ref mx, .ref mh, .ref mg, .ref mc, .ref mo, .ref mr, .ref mf, .long wp, .long wl, .int (nI ru), .int (nI sm), .ref mk, .ref ml]))] sz) := by
  refine Met.ofW (cc := cX6_count) (maxL := 5) (ret := (some .int)) (by decide) rfl ?_
  intro p e s m args below meth c s₁ B hml hv
  obtain ⟨hargs, hsz, hP, hT, hD0⟩ := hv
  have hx := B.exec
  have hb := B.bytes
  have hr := B.returns
  have hts := atoms_spec (ws := wsX6_count) B.pre
  have hown : s.vm.findClass RX6 = some m.cls := findClass_of_methodNamed B.named
  have hlocks := B.notSynchronized
  subst hsz
  have hK := hT.1
  have hD := hD0.self (sz := s.heap.size)
  generalize hAe : va_A [(h0, .inr (6, [.int (nI thr), .int (nI mi), .int (nI me), .int (nI dp), .int (bI up), .int (nI dn), .ref ma, .ref mx, .ref mh, .ref mg, .ref mc, .ref mo, .ref mr, .ref mf, .long wp, .long wl, .int (nI ru), .int (nI sm), .ref mk, .ref ml]))] s.heap.size = A at hD ⊢
  have hA : ∀ q : Nat, s.heap.size ≤ q → A q := fun q h => by rw [← hAe]; exact Or.inr h
  have hS : va_S A s.heap s.heap [] := va_S.rf
  obtain ⟨H, hHe⟩ : ∃ H : Heap, H = s.heap := ⟨_, rfl⟩
  have hS : va_S A s.heap H [] := by rw [hHe]; exact va_S.rf
  rw [← hHe] at hP
  suffices K0 : W p l e (headSpec wsX6_count ({ frames := 2, cells := 0, slots := 0, locals := 42 } : Room)).room s m args below meth c H [] 0 0 (MQ below (Qi9 D A [(h0, .inr (6, [.int (nI 1), .int (nI mi), .int (nI me), .int (nI dp), .int (bI up), .int (nI dn), .ref ma, .ref mx, .ref mh, .ref mg, .ref mc, .ref mo, .ref mr, .ref mf, .long wp, .long wl, .int (nI ru), .int (nI sm), .ref mk, .ref ml]))] (nI 0)) args s 0 0 A) (entryFrame m args 5) by rw [hHe] at K0; exact K0
  refine W.eq (g2 := entryFrame m ([.ref h0, .int (nI ki), .int x1, .int x2] : List Value).toArray 5) (by rw [hargs]) ?_
  have hl := lv_entry ([.ref h0, .int (nI ki), .int x1, .int x2]) (n := 5) (Nat.le_of_ble_eq_true rfl)
  rw [lg_entry_eq]
  generalize (lg_sl ([.ref h0, .int (nI ki), .int x1, .int x2]) ++ List.replicate (5 - (lg_sl ([.ref h0, .int (nI ki), .int x1, .int x2])).length) Slot.unset).toArray = ls at hl ⊢
  have hl : lv_has ls 5 [(0, .ref h0), (1, .int (nI ki)), (2, .int x1), (3, .int x2)] := hl
  generalize ([] : List Loc) = locs at hS ⊢
  refine lv_iload_n hx hb dX6_count_0 rfl (lv_at hl 1 rfl) ?_
  refine cr_i (wc := []) (w1 := []) (ws2 := [(h0, .inr (6, [.int (nI thr), .int (nI mi), .int (nI me), .int (nI dp), .int (bI up), .int (nI dn), .ref ma, .ref mx, .ref mh, .ref mg, .ref mc, .ref mo, .ref mr, .ref mf, .long wp, .long wl, .int (nI ru), .int (nI sm), .ref mk, .ref ml]))]) hP hD hS hA [] rfl rfl rfl (va_runS (As := [.int (nI ki)]) (rest := []) ⟨hx, hb, hml, hown, hts⟩ (c_X6_isPlace_T l D cI cJ cZ ki (by omega) H.size) (va_cwS 1 hts gX6_count_X6_isPlace rfl rfl rfl (by decide +kernel) ⟨Nat.le_of_ble_eq_true rfl, Nat.le_of_ble_eq_true rfl⟩) (pvS hT hP hD [] rfl rfl) rfl rfl hl.1 rfl (lv_room (Nat.le_of_ble_eq_true rfl)) dX6_count_1 ⟨Nat.zero_le _, Nat.zero_le _⟩) (fun H locs hP hD hS => ?_)
  refine cb_eq (tgt := 18) hx hb dX6_count_4 (by decide) (fun c_4 => absurd c_4 (by decide)) (fun c_4 => ?_)
  refine lv_iload_n hx hb dX6_count_7 rfl (lv_at hl 2 rfl) ?_
  refine cr_i (wc := []) (w1 := []) (ws2 := [(h0, .inr (6, [.int (nI thr), .int (nI mi), .int (nI me), .int (nI dp), .int (bI up), .int (nI dn), .ref ma, .ref mx, .ref mh, .ref mg, .ref mc, .ref mo, .ref mr, .ref mf, .long wp, .long wl, .int (nI ru), .int (nI sm), .ref mk, .ref ml]))]) hP hD hS hA [] rfl rfl rfl (va_runS (As := [.int x1]) (rest := []) ⟨hx, hb, hml, hown, hts⟩ (c_X6_isLayer_F l D cI cJ cZ x1 (by omega) H.size) (va_cwS 1 hts gX6_count_X6_isLayer rfl rfl rfl (by decide +kernel) ⟨Nat.le_of_ble_eq_true rfl, Nat.le_of_ble_eq_true rfl⟩) (pvS hT hP hD [] rfl rfl) rfl rfl hl.1 rfl (lv_room (Nat.le_of_ble_eq_true rfl)) dX6_count_8 ⟨Nat.zero_le _, Nat.zero_le _⟩) (fun H locs hP hD hS => ?_)
  refine cb_eq (tgt := 18) hx hb dX6_count_11 (by decide) (fun c_11 => ?_) (fun c_11 => absurd c_11 (by decide))
  refine lv_iconst (v := nI 0) hx hb dX6_count_18 (by decide) ?_
  refine lv_istore (lv' := [(4, .int (nI 0)), (0, .ref h0), (1, .int (nI ki)), (2, .int x1), (3, .int x2)]) hx hb dX6_count_19 hl (by decide) rfl (fun ls hl => ?_)
  refine lv_aload_n hx hb dX6_count_21 rfl (lv_at hl 1 rfl) ?_
  refine lv_iload hx hb dX6_count_22 (lv_at hl 0 rfl) ?_
  refine c0_ne (tgt := 31) hx hb dX6_count_24 (by decide) (nT (by omega)) (fun c_24 => by omega) (fun c_24 => ?_)
  refine lv_iconst (v := nI 1) hx hb dX6_count_27 (by decide) ?_
  refine lv_goto (tgt := 45) hx hb dX6_count_28 (by decide) ?_
  refine cr_i (wc := [(h0, .inr (6, [.int (nI thr), .int (nI mi), .int (nI me), .int (nI dp), .int (bI up), .int (nI dn), .ref ma, .ref mx, .ref mh, .ref mg, .ref mc, .ref mo, .ref mr, .ref mf, .long wp, .long wl, .int (nI ru), .int (nI sm), .ref mk, .ref ml]))]) (w1 := [(h0, .inr (6, [.int (nI 1), .int (nI mi), .int (nI me), .int (nI dp), .int (bI up), .int (nI dn), .ref ma, .ref mx, .ref mh, .ref mg, .ref mc, .ref mo, .ref mr, .ref mf, .long wp, .long wl, .int (nI ru), .int (nI sm), .ref mk, .ref ml]))]) (ws2 := [(h0, .inr (6, [.int (nI 1), .int (nI mi), .int (nI me), .int (nI dp), .int (bI up), .int (nI dn), .ref ma, .ref mx, .ref mh, .ref mg, .ref mc, .ref mo, .ref mr, .ref mf, .long wp, .long wl, .int (nI ru), .int (nI sm), .ref mk, .ref ml]))]) hP hD hS hA [0] rfl rfl rfl (va_runV (As := [.int (nI 1)]) (rest := []) ⟨hx, hb, hml, hown, hts⟩ (c_X6_goesWell_no l D cI cJ cZ h0 thr mi me dp up dn ma mx mh mg mc mo mr mf mk ml wp wl ru sm 1 (by omega) (by omega) H.size) (cwV 1 hts gX6_count_X6_goesWell rfl rfl rfl (by decide +kernel) ⟨Nat.le_of_ble_eq_true rfl, Nat.le_of_ble_eq_true rfl⟩) (pvV hT hP hD [0] rfl rfl 0 rfl rfl) rfl rfl hl.1 rfl (lv_room (Nat.le_of_ble_eq_true rfl)) dX6_count_45 ⟨Nat.zero_le _, Nat.zero_le _⟩) (fun H locs hP hD hS => ?_)
  refine cb_ne (tgt := 53) hx hb dX6_count_48 (by decide) (fun c_48 => absurd c_48 (by decide)) (fun c_48 => ?_)
  refine lv_iconst (v := nI 0) hx hb dX6_count_51 (by decide) ?_
  exact fin_i hx hb hr hlocks hP hD hS (rfl) dX6_count_52
set_option maxHeartbeats 4000000 in
set_option maxRecDepth 100000 in
theorem c_X6_count_b2 (l : Launch) (D : va_G) (cI cJ cZ : ClassId) (h0 : Nat) (thr : Nat) (mi : Nat) (me : Nat) (dp : Nat) (up : Bool) (dn : Nat) (ma : Nat) (mx : Nat) (mh : Nat) (mg : Nat) (mc : Nat) (mo : Nat) (mr : Nat) (mf : Nat) (mk : Nat) (ml : Nat) (wp : Int64) (wl : Int64) (ru : Nat) (sm : Nat) (ki : Nat) (la : Nat) (x2 : Int32) (hki : ki < 20) (hla : la < 10) (hbad : x2.toInt < 1 ∨ 3 < x2.toInt) (sz : Nat) : Met l yX6_count wsX6_count ({ frames := 2, cells := 0, slots := 0, locals := 42 } : Room) (va_Pc [.ref h0, .int (nI ki), .int (nI la), .int x2] (mPre D cI cJ cZ [(h0, .inr (6, [.int (nI thr), .int (nI mi), .int (nI me), .int (nI dp), .int (bI up), .int (nI dn), .ref ma, .ref mx, .ref mh, .ref mg, .ref mc, .ref mo, .ref mr, .ref mf, .long wp, .long wl, .int (nI ru), .int (nI sm), .ref mk, .ref ml]))] sz)) (Qi9 D (va_A [(h0, .inr (6, [.int (nI thr), .int (nI mi), .int (nI me), .int (nI dp), .int (bI up), .int (nI dn), .ref ma, .ref mx, .ref mh, .ref mg, .ref mc, .ref mo, .ref mr, .ref mf, .long wp, .long wl, .int (nI ru), .int (nI sm), .ref mk, .ref ml]))] sz) [(h0, .inr (6, [.int (nI 2), .int (nI mi), .int (nI me), .int (nI dp), .int (bI up), .int (nI dn), .ref ma, .ref mx, .ref mh, .ref mg, .ref mc, .ref mo, .ref mr, .ref mf, .long wp, .long wl, .int (nI ru), .int (nI sm), .ref mk, .ref ml]))] (nI 0)) 0 0 (va_A [(h0, .inr (6, [.int (nI thr), .int (nI mi), .int (nI me), .int (nI dp), .int (bI up), .int (nI dn), .ref ma, .ref mx, .ref mh, .ref mg, .ref mc, .ref mo, .ref mr, .ref mf, .long wp, .long wl, .int (nI ru), .int (nI sm), .ref mk, .ref ml]))] sz) := by
  refine Met.ofW (cc := cX6_count) (maxL := 5) (ret := (some .int)) (by decide) rfl ?_
  intro p e s m args below meth c s₁ B hml hv
  obtain ⟨hargs, hsz, hP, hT, hD0⟩ := hv
  have hx := B.exec
  have hb := B.bytes
  have hr := B.returns
  have hts := atoms_spec (ws := wsX6_count) B.pre
  have hown : s.vm.findClass RX6 = some m.cls := findClass_of_methodNamed B.named
  have hlocks := B.notSynchronized
  subst hsz
  have hK := hT.1
  have hD := hD0.self (sz := s.heap.size)
  generalize hAe : va_A [(h0, .inr (6, [.int (nI thr), .int (nI mi), .int (nI me), .int (nI dp), .int (bI up), .int (nI dn), .ref ma, .ref mx, .ref mh, .ref mg, .ref mc, .ref mo, .ref mr, .ref mf, .long wp, .long wl, .int (nI ru), .int (nI sm), .ref mk, .ref ml]))] s.heap.size = A at hD ⊢
  have hA : ∀ q : Nat, s.heap.size ≤ q → A q := fun q h => by rw [← hAe]; exact Or.inr h
  have hS : va_S A s.heap s.heap [] := va_S.rf
  obtain ⟨H, hHe⟩ : ∃ H : Heap, H = s.heap := ⟨_, rfl⟩
  have hS : va_S A s.heap H [] := by rw [hHe]; exact va_S.rf
  rw [← hHe] at hP
  suffices K0 : W p l e (headSpec wsX6_count ({ frames := 2, cells := 0, slots := 0, locals := 42 } : Room)).room s m args below meth c H [] 0 0 (MQ below (Qi9 D A [(h0, .inr (6, [.int (nI 2), .int (nI mi), .int (nI me), .int (nI dp), .int (bI up), .int (nI dn), .ref ma, .ref mx, .ref mh, .ref mg, .ref mc, .ref mo, .ref mr, .ref mf, .long wp, .long wl, .int (nI ru), .int (nI sm), .ref mk, .ref ml]))] (nI 0)) args s 0 0 A) (entryFrame m args 5) by rw [hHe] at K0; exact K0
  refine W.eq (g2 := entryFrame m ([.ref h0, .int (nI ki), .int (nI la), .int x2] : List Value).toArray 5) (by rw [hargs]) ?_
  have hl := lv_entry ([.ref h0, .int (nI ki), .int (nI la), .int x2]) (n := 5) (Nat.le_of_ble_eq_true rfl)
  rw [lg_entry_eq]
  generalize (lg_sl ([.ref h0, .int (nI ki), .int (nI la), .int x2]) ++ List.replicate (5 - (lg_sl ([.ref h0, .int (nI ki), .int (nI la), .int x2])).length) Slot.unset).toArray = ls at hl ⊢
  have hl : lv_has ls 5 [(0, .ref h0), (1, .int (nI ki)), (2, .int (nI la)), (3, .int x2)] := hl
  generalize ([] : List Loc) = locs at hS ⊢
  refine lv_iload_n hx hb dX6_count_0 rfl (lv_at hl 1 rfl) ?_
  refine cr_i (wc := []) (w1 := []) (ws2 := [(h0, .inr (6, [.int (nI thr), .int (nI mi), .int (nI me), .int (nI dp), .int (bI up), .int (nI dn), .ref ma, .ref mx, .ref mh, .ref mg, .ref mc, .ref mo, .ref mr, .ref mf, .long wp, .long wl, .int (nI ru), .int (nI sm), .ref mk, .ref ml]))]) hP hD hS hA [] rfl rfl rfl (va_runS (As := [.int (nI ki)]) (rest := []) ⟨hx, hb, hml, hown, hts⟩ (c_X6_isPlace_T l D cI cJ cZ ki (by omega) H.size) (va_cwS 1 hts gX6_count_X6_isPlace rfl rfl rfl (by decide +kernel) ⟨Nat.le_of_ble_eq_true rfl, Nat.le_of_ble_eq_true rfl⟩) (pvS hT hP hD [] rfl rfl) rfl rfl hl.1 rfl (lv_room (Nat.le_of_ble_eq_true rfl)) dX6_count_1 ⟨Nat.zero_le _, Nat.zero_le _⟩) (fun H locs hP hD hS => ?_)
  refine cb_eq (tgt := 18) hx hb dX6_count_4 (by decide) (fun c_4 => absurd c_4 (by decide)) (fun c_4 => ?_)
  refine lv_iload_n hx hb dX6_count_7 rfl (lv_at hl 2 rfl) ?_
  refine cr_i (wc := []) (w1 := []) (ws2 := [(h0, .inr (6, [.int (nI thr), .int (nI mi), .int (nI me), .int (nI dp), .int (bI up), .int (nI dn), .ref ma, .ref mx, .ref mh, .ref mg, .ref mc, .ref mo, .ref mr, .ref mf, .long wp, .long wl, .int (nI ru), .int (nI sm), .ref mk, .ref ml]))]) hP hD hS hA [] rfl rfl rfl (va_runS (As := [.int (nI la)]) (rest := []) ⟨hx, hb, hml, hown, hts⟩ (c_X6_isLayer_T l D cI cJ cZ la (by omega) H.size) (va_cwS 1 hts gX6_count_X6_isLayer rfl rfl rfl (by decide +kernel) ⟨Nat.le_of_ble_eq_true rfl, Nat.le_of_ble_eq_true rfl⟩) (pvS hT hP hD [] rfl rfl) rfl rfl hl.1 rfl (lv_room (Nat.le_of_ble_eq_true rfl)) dX6_count_8 ⟨Nat.zero_le _, Nat.zero_le _⟩) (fun H locs hP hD hS => ?_)
  refine cb_eq (tgt := 18) hx hb dX6_count_11 (by decide) (fun c_11 => absurd c_11 (by decide)) (fun c_11 => ?_)
  refine lv_iconst (v := nI 1) hx hb dX6_count_14 (by decide) ?_
  refine lv_goto (tgt := 19) hx hb dX6_count_15 (by decide) ?_
  refine lv_istore (lv' := [(4, .int (nI 1)), (0, .ref h0), (1, .int (nI ki)), (2, .int (nI la)), (3, .int x2)]) hx hb dX6_count_19 hl (by decide) rfl (fun ls hl => ?_)
  refine lv_aload_n hx hb dX6_count_21 rfl (lv_at hl 1 rfl) ?_
  refine lv_iload hx hb dX6_count_22 (lv_at hl 0 rfl) ?_
  refine c0_ne (tgt := 31) hx hb dX6_count_24 (by decide) (nT (by omega)) (fun c_24 => ?_) (fun c_24 => by omega)
  refine lv_iload_n hx hb dX6_count_31 rfl (lv_at hl 4 rfl) ?_
  refine lv_iconst (v := nI 1) hx hb dX6_count_32 (by decide) ?_
  refine lv_iconst (v := nI 3) hx hb dX6_count_33 (by decide) ?_
  refine cr_i (wc := []) (w1 := []) (ws2 := [(h0, .inr (6, [.int (nI thr), .int (nI mi), .int (nI me), .int (nI dp), .int (bI up), .int (nI dn), .ref ma, .ref mx, .ref mh, .ref mg, .ref mc, .ref mo, .ref mr, .ref mf, .long wp, .long wl, .int (nI ru), .int (nI sm), .ref mk, .ref ml]))]) hP hD hS hA [] rfl rfl rfl (va_runS (As := [.int x2, .int (nI 1), .int (nI 3)]) (rest := [.ref h0]) ⟨hx, hb, hml, hown, hts⟩ (c_X6_in_F l D cI cJ cZ x2 1 3 (by omega) (by omega) (by omega) H.size) (va_cwS 3 hts gX6_count_X6_in rfl rfl rfl (by decide +kernel) ⟨Nat.le_of_ble_eq_true rfl, Nat.le_of_ble_eq_true rfl⟩) (pvS hT hP hD [] rfl rfl) rfl rfl hl.1 rfl (lv_room (Nat.le_of_ble_eq_true rfl)) dX6_count_34 ⟨Nat.zero_le _, Nat.zero_le _⟩) (fun H locs hP hD hS => ?_)
  refine cb_eq (tgt := 44) hx hb dX6_count_37 (by decide) (fun c_37 => ?_) (fun c_37 => absurd c_37 (by decide))
  refine lv_iconst (v := nI 2) hx hb dX6_count_44 (by decide) ?_
  refine cr_i (wc := [(h0, .inr (6, [.int (nI thr), .int (nI mi), .int (nI me), .int (nI dp), .int (bI up), .int (nI dn), .ref ma, .ref mx, .ref mh, .ref mg, .ref mc, .ref mo, .ref mr, .ref mf, .long wp, .long wl, .int (nI ru), .int (nI sm), .ref mk, .ref ml]))]) (w1 := [(h0, .inr (6, [.int (nI 2), .int (nI mi), .int (nI me), .int (nI dp), .int (bI up), .int (nI dn), .ref ma, .ref mx, .ref mh, .ref mg, .ref mc, .ref mo, .ref mr, .ref mf, .long wp, .long wl, .int (nI ru), .int (nI sm), .ref mk, .ref ml]))]) (ws2 := [(h0, .inr (6, [.int (nI 2), .int (nI mi), .int (nI me), .int (nI dp), .int (bI up), .int (nI dn), .ref ma, .ref mx, .ref mh, .ref mg, .ref mc, .ref mo, .ref mr, .ref mf, .long wp, .long wl, .int (nI ru), .int (nI sm), .ref mk, .ref ml]))]) hP hD hS hA [0] rfl rfl rfl (va_runV (As := [.int (nI 2)]) (rest := []) ⟨hx, hb, hml, hown, hts⟩ (c_X6_goesWell_no l D cI cJ cZ h0 thr mi me dp up dn ma mx mh mg mc mo mr mf mk ml wp wl ru sm 2 (by omega) (by omega) H.size) (cwV 1 hts gX6_count_X6_goesWell rfl rfl rfl (by decide +kernel) ⟨Nat.le_of_ble_eq_true rfl, Nat.le_of_ble_eq_true rfl⟩) (pvV hT hP hD [0] rfl rfl 0 rfl rfl) rfl rfl hl.1 rfl (lv_room (Nat.le_of_ble_eq_true rfl)) dX6_count_45 ⟨Nat.zero_le _, Nat.zero_le _⟩) (fun H locs hP hD hS => ?_)
  refine cb_ne (tgt := 53) hx hb dX6_count_48 (by decide) (fun c_48 => absurd c_48 (by decide)) (fun c_48 => ?_)
  refine lv_iconst (v := nI 0) hx hb dX6_count_51 (by decide) ?_
  exact fin_i hx hb hr hlocks hP hD hS (rfl) dX6_count_52
set_option maxHeartbeats 4000000 in
set_option maxRecDepth 100000 in
theorem c_X6_phase_b0 (l : Launch) (D : va_G) (cI cJ cZ : ClassId) (h0 : Nat) (thr : Nat) (mi : Nat) (me : Nat) (dp : Nat) (up : Bool) (dn : Nat) (ma : Nat) (mx : Nat) (mh : Nat) (mg : Nat) (mc : Nat) (mo : Nat) (mr : Nat) (mf : Nat) (mk : Nat) (ml : Nat) (wp : Int64) (wl : Int64) (ru : Nat) (sm : Nat) (x0 : Int32) (hbad : x0.toInt < 0 ∨ 10 ≤ x0.toInt) (sz : Nat) : Met l yX6_phase wsX6_phase ({ frames := 2, cells := 0, slots := 0, locals := 42 } : Room) (va_Pc [.ref h0, .int x0] (mPre D cI cJ cZ [(h0, .inr (6, [.int (nI thr), .int (nI mi), .int (nI me), .int (nI dp), .int (bI up), .int (nI dn), .ref ma, .ref mx, .ref mh, .ref mg, .ref mc, .ref mo, .ref mr, .ref mf, .long wp, .long wl, .int (nI ru), .int (nI sm), .ref mk, .ref ml]))] sz)) (Qi9 D (va_A [(h0, .inr (6, [.int (nI thr), .int (nI mi), .int (nI me), .int (nI dp), .int (bI up), .int (nI dn), .ref ma, .ref mx, .ref mh, .ref mg, .ref mc, .ref mo, .ref mr, .ref mf, .long wp, .long wl, .int (nI ru), .int (nI sm), .ref mk, .ref ml]))] sz) [(h0, .inr (6, [.int (nI 1), .int (nI mi), .int (nI me), .int (nI dp), .int (bI up), .int (nI dn), .ref ma, .ref mx, .ref mh, .ref mg, .ref mc, .ref mo, .ref mr, .ref mf, .long wp, .long wl, .int (nI ru), .int (nI sm), .ref mk, .ref ml]))] (nI 0)) 0 0 (va_A [(h0, .inr (6, [.int (nI thr), .int (nI mi), .int (nI me), .int (nI dp), .int (bI up), .int (nI dn), .ref ma, .ref mx, .ref mh, .ref mg, .ref mc, .ref mo, .ref mr, .ref mf, .long wp, .long wl, .int (nI ru), .int (nI sm), .ref mk, .ref ml]))] sz) := by
  refine Met.ofW (cc := cX6_phase) (maxL := 2) (ret := (some .int)) (by decide) rfl ?_
  intro p e s m args below meth c s₁ B hml hv
  obtain ⟨hargs, hsz, hP, hT, hD0⟩ := hv
  have hx := B.exec
  have hb := B.bytes
  have hr := B.returns
  have hts := atoms_spec (ws := wsX6_phase) B.pre
  have hown : s.vm.findClass RX6 = some m.cls := findClass_of_methodNamed B.named
  have hlocks := B.notSynchronized
  subst hsz
  have hK := hT.1
  have hD := hD0.self (sz := s.heap.size)
  generalize hAe : va_A [(h0, .inr (6, [.int (nI thr), .int (nI mi), .int (nI me), .int (nI dp), .int (bI up), .int (nI dn), .ref ma, .ref mx, .ref mh, .ref mg, .ref mc, .ref mo, .ref mr, .ref mf, .long wp, .long wl, .int (nI ru), .int (nI sm), .ref mk, .ref ml]))] s.heap.size = A at hD ⊢
  have hA : ∀ q : Nat, s.heap.size ≤ q → A q := fun q h => by rw [← hAe]; exact Or.inr h
  have hS : va_S A s.heap s.heap [] := va_S.rf
  obtain ⟨H, hHe⟩ : ∃ H : Heap, H = s.heap := ⟨_, rfl⟩
  have hS : va_S A s.heap H [] := by rw [hHe]; exact va_S.rf
  rw [← hHe] at hP
  suffices K0 : W p l e (headSpec wsX6_phase ({ frames := 2, cells := 0, slots := 0, locals := 42 } : Room)).room s m args below meth c H [] 0 0 (MQ below (Qi9 D A [(h0, .inr (6, [.int (nI 1), .int (nI mi), .int (nI me), .int (nI dp), .int (bI up), .int (nI dn), .ref ma, .ref mx, .ref mh, .ref mg, .ref mc, .ref mo, .ref mr, .ref mf, .long wp, .long wl, .int (nI ru), .int (nI sm), .ref mk, .ref ml]))] (nI 0)) args s 0 0 A) (entryFrame m args 2) by rw [hHe] at K0; exact K0
  refine W.eq (g2 := entryFrame m ([.ref h0, .int x0] : List Value).toArray 2) (by rw [hargs]) ?_
  have hl := lv_entry ([.ref h0, .int x0]) (n := 2) (Nat.le_of_ble_eq_true rfl)
  rw [lg_entry_eq]
  generalize (lg_sl ([.ref h0, .int x0]) ++ List.replicate (2 - (lg_sl ([.ref h0, .int x0])).length) Slot.unset).toArray = ls at hl ⊢
  have hl : lv_has ls 2 [(0, .ref h0), (1, .int x0)] := hl
  generalize ([] : List Loc) = locs at hS ⊢
  refine lv_aload_n hx hb dX6_phase_0 rfl (lv_at hl 0 rfl) ?_
  refine lv_iload_n hx hb dX6_phase_1 rfl (lv_at hl 1 rfl) ?_
  refine cr_i (wc := []) (w1 := []) (ws2 := [(h0, .inr (6, [.int (nI thr), .int (nI mi), .int (nI me), .int (nI dp), .int (bI up), .int (nI dn), .ref ma, .ref mx, .ref mh, .ref mg, .ref mc, .ref mo, .ref mr, .ref mf, .long wp, .long wl, .int (nI ru), .int (nI sm), .ref mk, .ref ml]))]) hP hD hS hA [] rfl rfl rfl (va_runS (As := [.int x0]) (rest := [.ref h0]) ⟨hx, hb, hml, hown, hts⟩ (c_X6_isLayer_F l D cI cJ cZ x0 (by omega) H.size) (va_cwS 1 hts gX6_phase_X6_isLayer rfl rfl rfl (by decide +kernel) ⟨Nat.le_of_ble_eq_true rfl, Nat.le_of_ble_eq_true rfl⟩) (pvS hT hP hD [] rfl rfl) rfl rfl hl.1 rfl (lv_room (Nat.le_of_ble_eq_true rfl)) dX6_phase_2 ⟨Nat.zero_le _, Nat.zero_le _⟩) (fun H locs hP hD hS => ?_)
  refine cb_eq (tgt := 12) hx hb dX6_phase_5 (by decide) (fun c_5 => ?_) (fun c_5 => absurd c_5 (by decide))
  refine lv_iconst (v := nI 1) hx hb dX6_phase_12 (by decide) ?_
  refine cr_i (wc := [(h0, .inr (6, [.int (nI thr), .int (nI mi), .int (nI me), .int (nI dp), .int (bI up), .int (nI dn), .ref ma, .ref mx, .ref mh, .ref mg, .ref mc, .ref mo, .ref mr, .ref mf, .long wp, .long wl, .int (nI ru), .int (nI sm), .ref mk, .ref ml]))]) (w1 := [(h0, .inr (6, [.int (nI 1), .int (nI mi), .int (nI me), .int (nI dp), .int (bI up), .int (nI dn), .ref ma, .ref mx, .ref mh, .ref mg, .ref mc, .ref mo, .ref mr, .ref mf, .long wp, .long wl, .int (nI ru), .int (nI sm), .ref mk, .ref ml]))]) (ws2 := [(h0, .inr (6, [.int (nI 1), .int (nI mi), .int (nI me), .int (nI dp), .int (bI up), .int (nI dn), .ref ma, .ref mx, .ref mh, .ref mg, .ref mc, .ref mo, .ref mr, .ref mf, .long wp, .long wl, .int (nI ru), .int (nI sm), .ref mk, .ref ml]))]) hP hD hS hA [0] rfl rfl rfl (va_runV (As := [.int (nI 1)]) (rest := []) ⟨hx, hb, hml, hown, hts⟩ (c_X6_goesWell_no l D cI cJ cZ h0 thr mi me dp up dn ma mx mh mg mc mo mr mf mk ml wp wl ru sm 1 (by omega) (by omega) H.size) (cwV 1 hts gX6_phase_X6_goesWell rfl rfl rfl (by decide +kernel) ⟨Nat.le_of_ble_eq_true rfl, Nat.le_of_ble_eq_true rfl⟩) (pvV hT hP hD [0] rfl rfl 0 rfl rfl) rfl rfl hl.1 rfl (lv_room (Nat.le_of_ble_eq_true rfl)) dX6_phase_13 ⟨Nat.zero_le _, Nat.zero_le _⟩) (fun H locs hP hD hS => ?_)
  refine cb_eq (tgt := 27) hx hb dX6_phase_16 (by decide) (fun c_16 => ?_) (fun c_16 => absurd c_16 (by decide))
  refine lv_iconst (v := nI 0) hx hb dX6_phase_27 (by decide) ?_
  exact fin_i hx hb hr hlocks hP hD hS (rfl) dX6_phase_28
set_option maxHeartbeats 4000000 in
set_option maxRecDepth 100000 in
theorem c_X6_echo_b0 (l : Launch) (D : va_G) (cI cJ cZ : ClassId) (h0 : Nat) (thr : Nat) (mi : Nat) (me : Nat) (dp : Nat) (up : Bool) (dn : Nat) (ma : Nat) (mx : Nat) (mh : Nat) (mg : Nat) (mc : Nat) (mo : Nat) (mr : Nat) (mf : Nat) (mk : Nat) (ml : Nat) (wp : Int64) (wl : Int64) (ru : Nat) (sm : Nat) (x0 : Int32) (x1 : Int32) (hbad : x0.toInt < 0 ∨ 20 ≤ x0.toInt) (sz : Nat) : Met l yX6_echo wsX6_echo ({ frames := 2, cells := 0, slots := 0, locals := 42 } : Room) (va_Pc [.ref h0, .int x0, .int x1] (mPre D cI cJ cZ [(h0, .inr (6, [.int (nI thr), .int (nI mi), .int (nI me), .int (nI dp), .int (bI up), .int (nI dn), .ref ma, .ref mx, .ref mh, .ref mg, .ref mc, .ref mo, .ref mr, .ref mf, .long wp, .long wl, .int (nI ru), .int (nI sm), .ref mk, .ref ml]))] sz)) (Ql9 D (va_A [(h0, .inr (6, [.int (nI thr), .int (nI mi), .int (nI me), .int (nI dp), .int (bI up), .int (nI dn), .ref ma, .ref mx, .ref mh, .ref mg, .ref mc, .ref mo, .ref mr, .ref mf, .long wp, .long wl, .int (nI ru), .int (nI sm), .ref mk, .ref ml]))] sz) [(h0, .inr (6, [.int (nI 1), .int (nI mi), .int (nI me), .int (nI dp), .int (bI up), .int (nI dn), .ref ma, .ref mx, .ref mh, .ref mg, .ref mc, .ref mo, .ref mr, .ref mf, .long wp, .long wl, .int (nI ru), .int (nI sm), .ref mk, .ref ml]))] (0)) 0 0 (va_A [(h0, .inr (6, [.int (nI thr), .int (nI mi), .int (nI me), .int (nI dp), .int (bI up), .int (nI dn), .ref ma, .ref mx, .ref mh, .ref mg, .ref mc, .ref mo, .ref mr, .ref mf, .long wp, .long wl, .int (nI ru), .int (nI sm), .ref mk, .ref ml]))] sz) := by
  refine Met.ofW (cc := cX6_echo) (maxL := 4) (ret := (some .long)) (by decide) rfl ?_
  intro p e s m args below meth c s₁ B hml hv
  obtain ⟨hargs, hsz, hP, hT, hD0⟩ := hv
  have hx := B.exec
  have hb := B.bytes
  have hr := B.returns
  have hts := atoms_spec (ws := wsX6_echo) B.pre
  have hown : s.vm.findClass RX6 = some m.cls := findClass_of_methodNamed B.named
  have hlocks := B.notSynchronized
  subst hsz
  have hK := hT.1
  have hD := hD0.self (sz := s.heap.size)
  generalize hAe : va_A [(h0, .inr (6, [.int (nI thr), .int (nI mi), .int (nI me), .int (nI dp), .int (bI up), .int (nI dn), .ref ma, .ref mx, .ref mh, .ref mg, .ref mc, .ref mo, .ref mr, .ref mf, .long wp, .long wl, .int (nI ru), .int (nI sm), .ref mk, .ref ml]))] s.heap.size = A at hD ⊢
  have hA : ∀ q : Nat, s.heap.size ≤ q → A q := fun q h => by rw [← hAe]; exact Or.inr h
  have hS : va_S A s.heap s.heap [] := va_S.rf
  obtain ⟨H, hHe⟩ : ∃ H : Heap, H = s.heap := ⟨_, rfl⟩
  have hS : va_S A s.heap H [] := by rw [hHe]; exact va_S.rf
  rw [← hHe] at hP
  suffices K0 : W p l e (headSpec wsX6_echo ({ frames := 2, cells := 0, slots := 0, locals := 42 } : Room)).room s m args below meth c H [] 0 0 (MQ below (Ql9 D A [(h0, .inr (6, [.int (nI 1), .int (nI mi), .int (nI me), .int (nI dp), .int (bI up), .int (nI dn), .ref ma, .ref mx, .ref mh, .ref mg, .ref mc, .ref mo, .ref mr, .ref mf, .long wp, .long wl, .int (nI ru), .int (nI sm), .ref mk, .ref ml]))] (0)) args s 0 0 A) (entryFrame m args 4) by rw [hHe] at K0; exact K0
  refine W.eq (g2 := entryFrame m ([.ref h0, .int x0, .int x1] : List Value).toArray 4) (by rw [hargs]) ?_
  have hl := lv_entry ([.ref h0, .int x0, .int x1]) (n := 4) (Nat.le_of_ble_eq_true rfl)
  rw [lg_entry_eq]
  generalize (lg_sl ([.ref h0, .int x0, .int x1]) ++ List.replicate (4 - (lg_sl ([.ref h0, .int x0, .int x1])).length) Slot.unset).toArray = ls at hl ⊢
  have hl : lv_has ls 4 [(0, .ref h0), (1, .int x0), (2, .int x1)] := hl
  generalize ([] : List Loc) = locs at hS ⊢
  refine lv_iload_n hx hb dX6_echo_0 rfl (lv_at hl 1 rfl) ?_
  refine cr_i (wc := []) (w1 := []) (ws2 := [(h0, .inr (6, [.int (nI thr), .int (nI mi), .int (nI me), .int (nI dp), .int (bI up), .int (nI dn), .ref ma, .ref mx, .ref mh, .ref mg, .ref mc, .ref mo, .ref mr, .ref mf, .long wp, .long wl, .int (nI ru), .int (nI sm), .ref mk, .ref ml]))]) hP hD hS hA [] rfl rfl rfl (va_runS (As := [.int x0]) (rest := []) ⟨hx, hb, hml, hown, hts⟩ (c_X6_isPlace_F l D cI cJ cZ x0 (by omega) H.size) (va_cwS 1 hts gX6_echo_X6_isPlace rfl rfl rfl (by decide +kernel) ⟨Nat.le_of_ble_eq_true rfl, Nat.le_of_ble_eq_true rfl⟩) (pvS hT hP hD [] rfl rfl) rfl rfl hl.1 rfl (lv_room (Nat.le_of_ble_eq_true rfl)) dX6_echo_1 ⟨Nat.zero_le _, Nat.zero_le _⟩) (fun H locs hP hD hS => ?_)
  refine lv_istore_n (lv' := [(3, .int (bI false)), (0, .ref h0), (1, .int x0), (2, .int x1)]) hx hb dX6_echo_4 rfl hl (by decide) rfl (fun ls hl => ?_)
  refine lv_aload_n hx hb dX6_echo_5 rfl (lv_at hl 1 rfl) ?_
  refine lv_iload_n hx hb dX6_echo_6 rfl (lv_at hl 0 rfl) ?_
  refine cb_ne (tgt := 14) hx hb dX6_echo_7 (by decide) (fun c_7 => absurd c_7 (by decide)) (fun c_7 => ?_)
  refine lv_iconst (v := nI 1) hx hb dX6_echo_10 (by decide) ?_
  refine lv_goto (tgt := 26) hx hb dX6_echo_11 (by decide) ?_
  refine cr_i (wc := [(h0, .inr (6, [.int (nI thr), .int (nI mi), .int (nI me), .int (nI dp), .int (bI up), .int (nI dn), .ref ma, .ref mx, .ref mh, .ref mg, .ref mc, .ref mo, .ref mr, .ref mf, .long wp, .long wl, .int (nI ru), .int (nI sm), .ref mk, .ref ml]))]) (w1 := [(h0, .inr (6, [.int (nI 1), .int (nI mi), .int (nI me), .int (nI dp), .int (bI up), .int (nI dn), .ref ma, .ref mx, .ref mh, .ref mg, .ref mc, .ref mo, .ref mr, .ref mf, .long wp, .long wl, .int (nI ru), .int (nI sm), .ref mk, .ref ml]))]) (ws2 := [(h0, .inr (6, [.int (nI 1), .int (nI mi), .int (nI me), .int (nI dp), .int (bI up), .int (nI dn), .ref ma, .ref mx, .ref mh, .ref mg, .ref mc, .ref mo, .ref mr, .ref mf, .long wp, .long wl, .int (nI ru), .int (nI sm), .ref mk, .ref ml]))]) hP hD hS hA [0] rfl rfl rfl (va_runV (As := [.int (nI 1)]) (rest := []) ⟨hx, hb, hml, hown, hts⟩ (c_X6_goesWell_no l D cI cJ cZ h0 thr mi me dp up dn ma mx mh mg mc mo mr mf mk ml wp wl ru sm 1 (by omega) (by omega) H.size) (cwV 1 hts gX6_echo_X6_goesWell rfl rfl rfl (by decide +kernel) ⟨Nat.le_of_ble_eq_true rfl, Nat.le_of_ble_eq_true rfl⟩) (pvV hT hP hD [0] rfl rfl 0 rfl rfl) rfl rfl hl.1 rfl (lv_room (Nat.le_of_ble_eq_true rfl)) dX6_echo_26 ⟨Nat.zero_le _, Nat.zero_le _⟩) (fun H locs hP hD hS => ?_)
  refine cb_ne (tgt := 34) hx hb dX6_echo_29 (by decide) (fun c_29 => absurd c_29 (by decide)) (fun c_29 => ?_)
  refine lv_lconst (v := 0) hx hb dX6_echo_32 (by decide) ?_
  exact fin_l hx hb hr hlocks hP hD hS (rfl) dX6_echo_33
set_option maxHeartbeats 4000000 in
set_option maxRecDepth 100000 in
theorem c_X6_echo_b1 (l : Launch) (D : va_G) (cI cJ cZ : ClassId) (h0 : Nat) (thr : Nat) (mi : Nat) (me : Nat) (dp : Nat) (up : Bool) (dn : Nat) (ma : Nat) (mx : Nat) (mh : Nat) (mg : Nat) (mc : Nat) (mo : Nat) (mr : Nat) (mf : Nat) (mk : Nat) (ml : Nat) (wp : Int64) (wl : Int64) (ru : Nat) (sm : Nat) (ki : Nat) (x1 : Int32) (hki : ki < 20) (hbad : x1.toInt < 0 ∨ 3 < x1.toInt) (sz : Nat) : Met l yX6_echo wsX6_echo ({ frames := 2, cells := 0, slots := 0, locals := 42 } : Room) (va_Pc [.ref h0, .int (nI ki), .int x1] (mPre D cI cJ cZ [(h0, .inr (6, [.int (nI thr), .int (nI mi), .int (nI me), .int (nI dp), .int (bI up), .int (nI dn), .ref ma, .ref mx, .ref mh, .ref mg, .ref mc, .ref mo, .ref mr, .ref mf, .long wp, .long wl, .int (nI ru), .int (nI sm), .ref mk, .ref ml]))] sz)) (Ql9 D (va_A [(h0, .inr (6, [.int (nI thr), .int (nI mi), .int (nI me), .int (nI dp), .int (bI up), .int (nI dn), .ref ma, .ref mx, .ref mh, .ref mg, .ref mc, .ref mo, .ref mr, .ref mf, .long wp, .long wl, .int (nI ru), .int (nI sm), .ref mk, .ref ml]))] sz) [(h0, .inr (6, [.int (nI 2), .int (nI mi), .int (nI me), .int (nI dp), .int (bI up), .int (nI dn), .ref ma, .ref mx, .ref mh, .ref mg, .ref mc, .ref mo, .ref mr, .ref mf, .long wp, .long wl, .int (nI ru), .int (nI sm), .ref mk, .ref ml]))] (0)) 0 0 (va_A [(h0, .inr (6, [.int (nI thr), .int (nI mi), .int (nI me), .int (nI dp), .int (bI up), .int (nI dn), .ref ma, .ref mx, .ref mh, .ref mg, .ref mc, .ref mo, .ref mr, .ref mf, .long wp, .long wl, .int (nI ru), .int (nI sm), .ref mk, .ref ml]))] sz) := by
  refine Met.ofW (cc := cX6_echo) (maxL := 4) (ret := (some .long)) (by decide) rfl ?_
  intro p e s m args below meth c s₁ B hml hv
  obtain ⟨hargs, hsz, hP, hT, hD0⟩ := hv
  have hx := B.exec
  have hb := B.bytes
  have hr := B.returns
  have hts := atoms_spec (ws := wsX6_echo) B.pre
  have hown : s.vm.findClass RX6 = some m.cls := findClass_of_methodNamed B.named
  have hlocks := B.notSynchronized
  subst hsz
  have hK := hT.1
  have hD := hD0.self (sz := s.heap.size)
  generalize hAe : va_A [(h0, .inr (6, [.int (nI thr), .int (nI mi), .int (nI me), .int (nI dp), .int (bI up), .int (nI dn), .ref ma, .ref mx, .ref mh, .ref mg, .ref mc, .ref mo, .ref mr, .ref mf, .long wp, .long wl, .int (nI ru), .int (nI sm), .ref mk, .ref ml]))] s.heap.size = A at hD ⊢
  have hA : ∀ q : Nat, s.heap.size ≤ q → A q := fun q h => by rw [← hAe]; exact Or.inr h
  have hS : va_S A s.heap s.heap [] := va_S.rf
  obtain ⟨H, hHe⟩ : ∃ H : Heap, H = s.heap := ⟨_, rfl⟩
  have hS : va_S A s.heap H [] := by rw [hHe]; exact va_S.rf
  rw [← hHe] at hP
  suffices K0 : W p l e (headSpec wsX6_echo ({ frames := 2, cells := 0, slots := 0, locals := 42 } : Room)).room s m args below meth c H [] 0 0 (MQ below (Ql9 D A [(h0, .inr (6, [.int (nI 2), .int (nI mi), .int (nI me), .int (nI dp), .int (bI up), .int (nI dn), .ref ma, .ref mx, .ref mh, .ref mg, .ref mc, .ref mo, .ref mr, .ref mf, .long wp, .long wl, .int (nI ru), .int (nI sm), .ref mk, .ref ml]))] (0)) args s 0 0 A) (entryFrame m args 4) by rw [hHe] at K0; exact K0
  refine W.eq (g2 := entryFrame m ([.ref h0, .int (nI ki), .int x1] : List Value).toArray 4) (by rw [hargs]) ?_
  have hl := lv_entry ([.ref h0, .int (nI ki), .int x1]) (n := 4) (Nat.le_of_ble_eq_true rfl)
  rw [lg_entry_eq]
  generalize (lg_sl ([.ref h0, .int (nI ki), .int x1]) ++ List.replicate (4 - (lg_sl ([.ref h0, .int (nI ki), .int x1])).length) Slot.unset).toArray = ls at hl ⊢
  have hl : lv_has ls 4 [(0, .ref h0), (1, .int (nI ki)), (2, .int x1)] := hl
  generalize ([] : List Loc) = locs at hS ⊢
  refine lv_iload_n hx hb dX6_echo_0 rfl (lv_at hl 1 rfl) ?_
  refine cr_i (wc := []) (w1 := []) (ws2 := [(h0, .inr (6, [.int (nI thr), .int (nI mi), .int (nI me), .int (nI dp), .int (bI up), .int (nI dn), .ref ma, .ref mx, .ref mh, .ref mg, .ref mc, .ref mo, .ref mr, .ref mf, .long wp, .long wl, .int (nI ru), .int (nI sm), .ref mk, .ref ml]))]) hP hD hS hA [] rfl rfl rfl (va_runS (As := [.int (nI ki)]) (rest := []) ⟨hx, hb, hml, hown, hts⟩ (c_X6_isPlace_T l D cI cJ cZ ki (by omega) H.size) (va_cwS 1 hts gX6_echo_X6_isPlace rfl rfl rfl (by decide +kernel) ⟨Nat.le_of_ble_eq_true rfl, Nat.le_of_ble_eq_true rfl⟩) (pvS hT hP hD [] rfl rfl) rfl rfl hl.1 rfl (lv_room (Nat.le_of_ble_eq_true rfl)) dX6_echo_1 ⟨Nat.zero_le _, Nat.zero_le _⟩) (fun H locs hP hD hS => ?_)
  refine lv_istore_n (lv' := [(3, .int (bI true)), (0, .ref h0), (1, .int (nI ki)), (2, .int x1)]) hx hb dX6_echo_4 rfl hl (by decide) rfl (fun ls hl => ?_)
  refine lv_aload_n hx hb dX6_echo_5 rfl (lv_at hl 1 rfl) ?_
  refine lv_iload_n hx hb dX6_echo_6 rfl (lv_at hl 0 rfl) ?_
  refine cb_ne (tgt := 14) hx hb dX6_echo_7 (by decide) (fun c_7 => ?_) (fun c_7 => absurd c_7 (by decide))
  refine lv_iload_n hx hb dX6_echo_14 rfl (lv_at hl 3 rfl) ?_
  refine cr_i (wc := []) (w1 := []) (ws2 := [(h0, .inr (6, [.int (nI thr), .int (nI mi), .int (nI me), .int (nI dp), .int (bI up), .int (nI dn), .ref ma, .ref mx, .ref mh, .ref mg, .ref mc, .ref mo, .ref mr, .ref mf, .long wp, .long wl, .int (nI ru), .int (nI sm), .ref mk, .ref ml]))]) hP hD hS hA [] rfl rfl rfl (va_runS (As := [.int x1]) (rest := [.ref h0]) ⟨hx, hb, hml, hown, hts⟩ (c_X6_isElevation_F l D cI cJ cZ x1 (by omega) H.size) (va_cwS 1 hts gX6_echo_X6_isElevation rfl rfl rfl (by decide +kernel) ⟨Nat.le_of_ble_eq_true rfl, Nat.le_of_ble_eq_true rfl⟩) (pvS hT hP hD [] rfl rfl) rfl rfl hl.1 rfl (lv_room (Nat.le_of_ble_eq_true rfl)) dX6_echo_15 ⟨Nat.zero_le _, Nat.zero_le _⟩) (fun H locs hP hD hS => ?_)
  refine cb_eq (tgt := 25) hx hb dX6_echo_18 (by decide) (fun c_18 => ?_) (fun c_18 => absurd c_18 (by decide))
  refine lv_iconst (v := nI 2) hx hb dX6_echo_25 (by decide) ?_
  refine cr_i (wc := [(h0, .inr (6, [.int (nI thr), .int (nI mi), .int (nI me), .int (nI dp), .int (bI up), .int (nI dn), .ref ma, .ref mx, .ref mh, .ref mg, .ref mc, .ref mo, .ref mr, .ref mf, .long wp, .long wl, .int (nI ru), .int (nI sm), .ref mk, .ref ml]))]) (w1 := [(h0, .inr (6, [.int (nI 2), .int (nI mi), .int (nI me), .int (nI dp), .int (bI up), .int (nI dn), .ref ma, .ref mx, .ref mh, .ref mg, .ref mc, .ref mo, .ref mr, .ref mf, .long wp, .long wl, .int (nI ru), .int (nI sm), .ref mk, .ref ml]))]) (ws2 := [(h0, .inr (6, [.int (nI 2), .int (nI mi), .int (nI me), .int (nI dp), .int (bI up), .int (nI dn), .ref ma, .ref mx, .ref mh, .ref mg, .ref mc, .ref mo, .ref mr, .ref mf, .long wp, .long wl, .int (nI ru), .int (nI sm), .ref mk, .ref ml]))]) hP hD hS hA [0] rfl rfl rfl (va_runV (As := [.int (nI 2)]) (rest := []) ⟨hx, hb, hml, hown, hts⟩ (c_X6_goesWell_no l D cI cJ cZ h0 thr mi me dp up dn ma mx mh mg mc mo mr mf mk ml wp wl ru sm 2 (by omega) (by omega) H.size) (cwV 1 hts gX6_echo_X6_goesWell rfl rfl rfl (by decide +kernel) ⟨Nat.le_of_ble_eq_true rfl, Nat.le_of_ble_eq_true rfl⟩) (pvV hT hP hD [0] rfl rfl 0 rfl rfl) rfl rfl hl.1 rfl (lv_room (Nat.le_of_ble_eq_true rfl)) dX6_echo_26 ⟨Nat.zero_le _, Nat.zero_le _⟩) (fun H locs hP hD hS => ?_)
  refine cb_ne (tgt := 34) hx hb dX6_echo_29 (by decide) (fun c_29 => absurd c_29 (by decide)) (fun c_29 => ?_)
  refine lv_lconst (v := 0) hx hb dX6_echo_32 (by decide) ?_
  exact fin_l hx hb hr hlocks hP hD hS (rfl) dX6_echo_33
set_option maxHeartbeats 4000000 in
set_option maxRecDepth 100000 in
theorem c_X6_seen_b0 (l : Launch) (D : va_G) (cI cJ cZ : ClassId) (h0 : Nat) (thr : Nat) (mi : Nat) (me : Nat) (dp : Nat) (up : Bool) (dn : Nat) (ma : Nat) (mx : Nat) (mh : Nat) (mg : Nat) (mc : Nat) (mo : Nat) (mr : Nat) (mf : Nat) (mk : Nat) (ml : Nat) (wp : Int64) (wl : Int64) (ru : Nat) (sm : Nat) (x0 : Int32) (x1 : Int32) (hbad : x0.toInt < 0 ∨ 20 ≤ x0.toInt) (sz : Nat) : Met l yX6_seen wsX6_seen ({ frames := 2, cells := 0, slots := 0, locals := 42 } : Room) (va_Pc [.ref h0, .int x0, .int x1] (mPre D cI cJ cZ [(h0, .inr (6, [.int (nI thr), .int (nI mi), .int (nI me), .int (nI dp), .int (bI up), .int (nI dn), .ref ma, .ref mx, .ref mh, .ref mg, .ref mc, .ref mo, .ref mr, .ref mf, .long wp, .long wl, .int (nI ru), .int (nI sm), .ref mk, .ref ml]))] sz)) (Ql9 D (va_A [(h0, .inr (6, [.int (nI thr), .int (nI mi), .int (nI me), .int (nI dp), .int (bI up), .int (nI dn), .ref ma, .ref mx, .ref mh, .ref mg, .ref mc, .ref mo, .ref mr, .ref mf, .long wp, .long wl, .int (nI ru), .int (nI sm), .ref mk, .ref ml]))] sz) [(h0, .inr (6, [.int (nI 1), .int (nI mi), .int (nI me), .int (nI dp), .int (bI up), .int (nI dn), .ref ma, .ref mx, .ref mh, .ref mg, .ref mc, .ref mo, .ref mr, .ref mf, .long wp, .long wl, .int (nI ru), .int (nI sm), .ref mk, .ref ml]))] (0)) 0 0 (va_A [(h0, .inr (6, [.int (nI thr), .int (nI mi), .int (nI me), .int (nI dp), .int (bI up), .int (nI dn), .ref ma, .ref mx, .ref mh, .ref mg, .ref mc, .ref mo, .ref mr, .ref mf, .long wp, .long wl, .int (nI ru), .int (nI sm), .ref mk, .ref ml]))] sz) := by
  refine Met.ofW (cc := cX6_seen) (maxL := 9) (ret := (some .long)) (by decide) rfl ?_
  intro p e s m args below meth c s₁ B hml hv
  obtain ⟨hargs, hsz, hP, hT, hD0⟩ := hv
  have hx := B.exec
  have hb := B.bytes
  have hr := B.returns
  have hts := atoms_spec (ws := wsX6_seen) B.pre
  have hown : s.vm.findClass RX6 = some m.cls := findClass_of_methodNamed B.named
  have hlocks := B.notSynchronized
  subst hsz
  have hK := hT.1
  have hD := hD0.self (sz := s.heap.size)
  generalize hAe : va_A [(h0, .inr (6, [.int (nI thr), .int (nI mi), .int (nI me), .int (nI dp), .int (bI up), .int (nI dn), .ref ma, .ref mx, .ref mh, .ref mg, .ref mc, .ref mo, .ref mr, .ref mf, .long wp, .long wl, .int (nI ru), .int (nI sm), .ref mk, .ref ml]))] s.heap.size = A at hD ⊢
  have hA : ∀ q : Nat, s.heap.size ≤ q → A q := fun q h => by rw [← hAe]; exact Or.inr h
  have hS : va_S A s.heap s.heap [] := va_S.rf
  obtain ⟨H, hHe⟩ : ∃ H : Heap, H = s.heap := ⟨_, rfl⟩
  have hS : va_S A s.heap H [] := by rw [hHe]; exact va_S.rf
  rw [← hHe] at hP
  suffices K0 : W p l e (headSpec wsX6_seen ({ frames := 2, cells := 0, slots := 0, locals := 42 } : Room)).room s m args below meth c H [] 0 0 (MQ below (Ql9 D A [(h0, .inr (6, [.int (nI 1), .int (nI mi), .int (nI me), .int (nI dp), .int (bI up), .int (nI dn), .ref ma, .ref mx, .ref mh, .ref mg, .ref mc, .ref mo, .ref mr, .ref mf, .long wp, .long wl, .int (nI ru), .int (nI sm), .ref mk, .ref ml]))] (0)) args s 0 0 A) (entryFrame m args 9) by rw [hHe] at K0; exact K0
  refine W.eq (g2 := entryFrame m ([.ref h0, .int x0, .int x1] : List Value).toArray 9) (by rw [hargs]) ?_
  have hl := lv_entry ([.ref h0, .int x0, .int x1]) (n := 9) (Nat.le_of_ble_eq_true rfl)
  rw [lg_entry_eq]
  generalize (lg_sl ([.ref h0, .int x0, .int x1]) ++ List.replicate (9 - (lg_sl ([.ref h0, .int x0, .int x1])).length) Slot.unset).toArray = ls at hl ⊢
  have hl : lv_has ls 9 [(0, .ref h0), (1, .int x0), (2, .int x1)] := hl
  generalize ([] : List Loc) = locs at hS ⊢
  refine lv_iload_n hx hb dX6_seen_0 rfl (lv_at hl 1 rfl) ?_
  refine cr_i (wc := []) (w1 := []) (ws2 := [(h0, .inr (6, [.int (nI thr), .int (nI mi), .int (nI me), .int (nI dp), .int (bI up), .int (nI dn), .ref ma, .ref mx, .ref mh, .ref mg, .ref mc, .ref mo, .ref mr, .ref mf, .long wp, .long wl, .int (nI ru), .int (nI sm), .ref mk, .ref ml]))]) hP hD hS hA [] rfl rfl rfl (va_runS (As := [.int x0]) (rest := []) ⟨hx, hb, hml, hown, hts⟩ (c_X6_isPlace_F l D cI cJ cZ x0 (by omega) H.size) (va_cwS 1 hts gX6_seen_X6_isPlace rfl rfl rfl (by decide +kernel) ⟨Nat.le_of_ble_eq_true rfl, Nat.le_of_ble_eq_true rfl⟩) (pvS hT hP hD [] rfl rfl) rfl rfl hl.1 rfl (lv_room (Nat.le_of_ble_eq_true rfl)) dX6_seen_1 ⟨Nat.zero_le _, Nat.zero_le _⟩) (fun H locs hP hD hS => ?_)
  refine lv_istore_n (lv' := [(3, .int (bI false)), (0, .ref h0), (1, .int x0), (2, .int x1)]) hx hb dX6_seen_4 rfl hl (by decide) rfl (fun ls hl => ?_)
  refine lv_aload_n hx hb dX6_seen_5 rfl (lv_at hl 1 rfl) ?_
  refine lv_iload_n hx hb dX6_seen_6 rfl (lv_at hl 0 rfl) ?_
  refine cb_ne (tgt := 14) hx hb dX6_seen_7 (by decide) (fun c_7 => absurd c_7 (by decide)) (fun c_7 => ?_)
  refine lv_iconst (v := nI 1) hx hb dX6_seen_10 (by decide) ?_
  refine lv_goto (tgt := 26) hx hb dX6_seen_11 (by decide) ?_
  refine cr_i (wc := [(h0, .inr (6, [.int (nI thr), .int (nI mi), .int (nI me), .int (nI dp), .int (bI up), .int (nI dn), .ref ma, .ref mx, .ref mh, .ref mg, .ref mc, .ref mo, .ref mr, .ref mf, .long wp, .long wl, .int (nI ru), .int (nI sm), .ref mk, .ref ml]))]) (w1 := [(h0, .inr (6, [.int (nI 1), .int (nI mi), .int (nI me), .int (nI dp), .int (bI up), .int (nI dn), .ref ma, .ref mx, .ref mh, .ref mg, .ref mc, .ref mo, .ref mr, .ref mf, .long wp, .long wl, .int (nI ru), .int (nI sm), .ref mk, .ref ml]))]) (ws2 := [(h0, .inr (6, [.int (nI 1), .int (nI mi), .int (nI me), .int (nI dp), .int (bI up), .int (nI dn), .ref ma, .ref mx, .ref mh, .ref mg, .ref mc, .ref mo, .ref mr, .ref mf, .long wp, .long wl, .int (nI ru), .int (nI sm), .ref mk, .ref ml]))]) hP hD hS hA [0] rfl rfl rfl (va_runV (As := [.int (nI 1)]) (rest := []) ⟨hx, hb, hml, hown, hts⟩ (c_X6_goesWell_no l D cI cJ cZ h0 thr mi me dp up dn ma mx mh mg mc mo mr mf mk ml wp wl ru sm 1 (by omega) (by omega) H.size) (cwV 1 hts gX6_seen_X6_goesWell rfl rfl rfl (by decide +kernel) ⟨Nat.le_of_ble_eq_true rfl, Nat.le_of_ble_eq_true rfl⟩) (pvV hT hP hD [0] rfl rfl 0 rfl rfl) rfl rfl hl.1 rfl (lv_room (Nat.le_of_ble_eq_true rfl)) dX6_seen_26 ⟨Nat.zero_le _, Nat.zero_le _⟩) (fun H locs hP hD hS => ?_)
  refine cb_ne (tgt := 34) hx hb dX6_seen_29 (by decide) (fun c_29 => absurd c_29 (by decide)) (fun c_29 => ?_)
  refine lv_lconst (v := 0) hx hb dX6_seen_32 (by decide) ?_
  exact fin_l hx hb hr hlocks hP hD hS (rfl) dX6_seen_33
set_option maxHeartbeats 4000000 in
set_option maxRecDepth 100000 in
theorem c_X6_seen_b1 (l : Launch) (D : va_G) (cI cJ cZ : ClassId) (h0 : Nat) (thr : Nat) (mi : Nat) (me : Nat) (dp : Nat) (up : Bool) (dn : Nat) (ma : Nat) (mx : Nat) (mh : Nat) (mg : Nat) (mc : Nat) (mo : Nat) (mr : Nat) (mf : Nat) (mk : Nat) (ml : Nat) (wp : Int64) (wl : Int64) (ru : Nat) (sm : Nat) (ki : Nat) (x1 : Int32) (hki : ki < 20) (hbad : x1.toInt < 0 ∨ 3 < x1.toInt) (sz : Nat) : Met l yX6_seen wsX6_seen ({ frames := 2, cells := 0, slots := 0, locals := 42 } : Room) (va_Pc [.ref h0, .int (nI ki), .int x1] (mPre D cI cJ cZ [(h0, .inr (6, [.int (nI thr), .int (nI mi), .int (nI me), .int (nI dp), .int (bI up), .int (nI dn), .ref ma, .ref mx, .ref mh, .ref mg, .ref mc, .ref mo, .ref mr, .ref mf, .long wp, .long wl, .int (nI ru), .int (nI sm), .ref mk, .ref ml]))] sz)) (Ql9 D (va_A [(h0, .inr (6, [.int (nI thr), .int (nI mi), .int (nI me), .int (nI dp), .int (bI up), .int (nI dn), .ref ma, .ref mx, .ref mh, .ref mg, .ref mc, .ref mo, .ref mr, .ref mf, .long wp, .long wl, .int (nI ru), .int (nI sm), .ref mk, .ref ml]))] sz) [(h0, .inr (6, [.int (nI 2), .int (nI mi), .int (nI me), .int (nI dp), .int (bI up), .int (nI dn), .ref ma, .ref mx, .ref mh, .ref mg, .ref mc, .ref mo, .ref mr, .ref mf, .long wp, .long wl, .int (nI ru), .int (nI sm), .ref mk, .ref ml]))] (0)) 0 0 (va_A [(h0, .inr (6, [.int (nI thr), .int (nI mi), .int (nI me), .int (nI dp), .int (bI up), .int (nI dn), .ref ma, .ref mx, .ref mh, .ref mg, .ref mc, .ref mo, .ref mr, .ref mf, .long wp, .long wl, .int (nI ru), .int (nI sm), .ref mk, .ref ml]))] sz) := by
  refine Met.ofW (cc := cX6_seen) (maxL := 9) (ret := (some .long)) (by decide) rfl ?_
  intro p e s m args below meth c s₁ B hml hv
  obtain ⟨hargs, hsz, hP, hT, hD0⟩ := hv
  have hx := B.exec
  have hb := B.bytes
  have hr := B.returns
  have hts := atoms_spec (ws := wsX6_seen) B.pre
  have hown : s.vm.findClass RX6 = some m.cls := findClass_of_methodNamed B.named
  have hlocks := B.notSynchronized
  subst hsz
  have hK := hT.1
  have hD := hD0.self (sz := s.heap.size)
  generalize hAe : va_A [(h0, .inr (6, [.int (nI thr), .int (nI mi), .int (nI me), .int (nI dp), .int (bI up), .int (nI dn), .ref ma, .ref mx, .ref mh, .ref mg, .ref mc, .ref mo, .ref mr, .ref mf, .long wp, .long wl, .int (nI ru), .int (nI sm), .ref mk, .ref ml]))] s.heap.size = A at hD ⊢
  have hA : ∀ q : Nat, s.heap.size ≤ q → A q := fun q h => by rw [← hAe]; exact Or.inr h
  have hS : va_S A s.heap s.heap [] := va_S.rf
  obtain ⟨H, hHe⟩ : ∃ H : Heap, H = s.heap := ⟨_, rfl⟩
  have hS : va_S A s.heap H [] := by rw [hHe]; exact va_S.rf
  rw [← hHe] at hP
  suffices K0 : W p l e (headSpec wsX6_seen ({ frames := 2, cells := 0, slots := 0, locals := 42 } : Room)).room s m args below meth c H [] 0 0 (MQ below (Ql9 D A [(h0, .inr (6, [.int (nI 2), .int (nI mi), .int (nI me), .int (nI dp), .int (bI up), .int (nI dn), .ref ma, .ref mx, .ref mh, .ref mg, .ref mc, .ref mo, .ref mr, .ref mf, .long wp, .long wl, .int (nI ru), .int (nI sm), .ref mk, .ref ml]))] (0)) args s 0 0 A) (entryFrame m args 9) by rw [hHe] at K0; exact K0
  refine W.eq (g2 := entryFrame m ([.ref h0, .int (nI ki), .int x1] : List Value).toArray 9) (by rw [hargs]) ?_
  have hl := lv_entry ([.ref h0, .int (nI ki), .int x1]) (n := 9) (Nat.le_of_ble_eq_true rfl)
  rw [lg_entry_eq]
  generalize (lg_sl ([.ref h0, .int (nI ki), .int x1]) ++ List.replicate (9 - (lg_sl ([.ref h0, .int (nI ki), .int x1])).length) Slot.unset).toArray = ls at hl ⊢
  have hl : lv_has ls 9 [(0, .ref h0), (1, .int (nI ki)), (2, .int x1)] := hl
  generalize ([] : List Loc) = locs at hS ⊢
  refine lv_iload_n hx hb dX6_seen_0 rfl (lv_at hl 1 rfl) ?_
  refine cr_i (wc := []) (w1 := []) (ws2 := [(h0, .inr (6, [.int (nI thr), .int (nI mi), .int (nI me), .int (nI dp), .int (bI up), .int (nI dn), .ref ma, .ref mx, .ref mh, .ref mg, .ref mc, .ref mo, .ref mr, .ref mf, .long wp, .long wl, .int (nI ru), .int (nI sm), .ref mk, .ref ml]))]) hP hD hS hA [] rfl rfl rfl (va_runS (As := [.int (nI ki)]) (rest := []) ⟨hx, hb, hml, hown, hts⟩ (c_X6_isPlace_T l D cI cJ cZ ki (by omega) H.size) (va_cwS 1 hts gX6_seen_X6_isPlace rfl rfl rfl (by decide +kernel) ⟨Nat.le_of_ble_eq_true rfl, Nat.le_of_ble_eq_true rfl⟩) (pvS hT hP hD [] rfl rfl) rfl rfl hl.1 rfl (lv_room (Nat.le_of_ble_eq_true rfl)) dX6_seen_1 ⟨Nat.zero_le _, Nat.zero_le _⟩) (fun H locs hP hD hS => ?_)
  refine lv_istore_n (lv' := [(3, .int (bI true)), (0, .ref h0), (1, .int (nI ki)), (2, .int x1)]) hx hb dX6_seen_4 rfl hl (by decide) rfl (fun ls hl => ?_)
  refine lv_aload_n hx hb dX6_seen_5 rfl (lv_at hl 1 rfl) ?_
  refine lv_iload_n hx hb dX6_seen_6 rfl (lv_at hl 0 rfl) ?_
  refine cb_ne (tgt := 14) hx hb dX6_seen_7 (by decide) (fun c_7 => ?_) (fun c_7 => absurd c_7 (by decide))
  refine lv_iload_n hx hb dX6_seen_14 rfl (lv_at hl 3 rfl) ?_
  refine cr_i (wc := []) (w1 := []) (ws2 := [(h0, .inr (6, [.int (nI thr), .int (nI mi), .int (nI me), .int (nI dp), .int (bI up), .int (nI dn), .ref ma, .ref mx, .ref mh, .ref mg, .ref mc, .ref mo, .ref mr, .ref mf, .long wp, .long wl, .int (nI ru), .int (nI sm), .ref mk, .ref ml]))]) hP hD hS hA [] rfl rfl rfl (va_runS (As := [.int x1]) (rest := [.ref h0]) ⟨hx, hb, hml, hown, hts⟩ (c_X6_isElevation_F l D cI cJ cZ x1 (by omega) H.size) (va_cwS 1 hts gX6_seen_X6_isElevation rfl rfl rfl (by decide +kernel) ⟨Nat.le_of_ble_eq_true rfl, Nat.le_of_ble_eq_true rfl⟩) (pvS hT hP hD [] rfl rfl) rfl rfl hl.1 rfl (lv_room (Nat.le_of_ble_eq_true rfl)) dX6_seen_15 ⟨Nat.zero_le _, Nat.zero_le _⟩) (fun H locs hP hD hS => ?_)
  refine cb_eq (tgt := 25) hx hb dX6_seen_18 (by decide) (fun c_18 => ?_) (fun c_18 => absurd c_18 (by decide))
  refine lv_iconst (v := nI 2) hx hb dX6_seen_25 (by decide) ?_
  refine cr_i (wc := [(h0, .inr (6, [.int (nI thr), .int (nI mi), .int (nI me), .int (nI dp), .int (bI up), .int (nI dn), .ref ma, .ref mx, .ref mh, .ref mg, .ref mc, .ref mo, .ref mr, .ref mf, .long wp, .long wl, .int (nI ru), .int (nI sm), .ref mk, .ref ml]))]) (w1 := [(h0, .inr (6, [.int (nI 2), .int (nI mi), .int (nI me), .int (nI dp), .int (bI up), .int (nI dn), .ref ma, .ref mx, .ref mh, .ref mg, .ref mc, .ref mo, .ref mr, .ref mf, .long wp, .long wl, .int (nI ru), .int (nI sm), .ref mk, .ref ml]))]) (ws2 := [(h0, .inr (6, [.int (nI 2), .int (nI mi), .int (nI me), .int (nI dp), .int (bI up), .int (nI dn), .ref ma, .ref mx, .ref mh, .ref mg, .ref mc, .ref mo, .ref mr, .ref mf, .long wp, .long wl, .int (nI ru), .int (nI sm), .ref mk, .ref ml]))]) hP hD hS hA [0] rfl rfl rfl (va_runV (As := [.int (nI 2)]) (rest := []) ⟨hx, hb, hml, hown, hts⟩ (c_X6_goesWell_no l D cI cJ cZ h0 thr mi me dp up dn ma mx mh mg mc mo mr mf mk ml wp wl ru sm 2 (by omega) (by omega) H.size) (cwV 1 hts gX6_seen_X6_goesWell rfl rfl rfl (by decide +kernel) ⟨Nat.le_of_ble_eq_true rfl, Nat.le_of_ble_eq_true rfl⟩) (pvV hT hP hD [0] rfl rfl 0 rfl rfl) rfl rfl hl.1 rfl (lv_room (Nat.le_of_ble_eq_true rfl)) dX6_seen_26 ⟨Nat.zero_le _, Nat.zero_le _⟩) (fun H locs hP hD hS => ?_)
  refine cb_ne (tgt := 34) hx hb dX6_seen_29 (by decide) (fun c_29 => absurd c_29 (by decide)) (fun c_29 => ?_)
  refine lv_lconst (v := 0) hx hb dX6_seen_32 (by decide) ?_
  exact fin_l hx hb hr hlocks hP hD hS (rfl) dX6_seen_33
set_option maxHeartbeats 4000000 in
set_option maxRecDepth 100000 in
theorem c_X6_rain_b0 (l : Launch) (D : va_G) (cI cJ cZ : ClassId) (h0 : Nat) (thr : Nat) (mi : Nat) (me : Nat) (dp : Nat) (up : Bool) (dn : Nat) (ma : Nat) (mx : Nat) (mh : Nat) (mg : Nat) (mc : Nat) (mo : Nat) (mr : Nat) (mf : Nat) (mk : Nat) (ml : Nat) (wp : Int64) (wl : Int64) (ru : Nat) (sm : Nat) (x0 : Int32) (hbad : x0.toInt < 0 ∨ 20 ≤ x0.toInt) (sz : Nat) : Met l yX6_rain wsX6_rain ({ frames := 2, cells := 0, slots := 0, locals := 42 } : Room) (va_Pc [.ref h0, .int x0] (mPre D cI cJ cZ [(h0, .inr (6, [.int (nI thr), .int (nI mi), .int (nI me), .int (nI dp), .int (bI up), .int (nI dn), .ref ma, .ref mx, .ref mh, .ref mg, .ref mc, .ref mo, .ref mr, .ref mf, .long wp, .long wl, .int (nI ru), .int (nI sm), .ref mk, .ref ml]))] sz)) (Ql9 D (va_A [(h0, .inr (6, [.int (nI thr), .int (nI mi), .int (nI me), .int (nI dp), .int (bI up), .int (nI dn), .ref ma, .ref mx, .ref mh, .ref mg, .ref mc, .ref mo, .ref mr, .ref mf, .long wp, .long wl, .int (nI ru), .int (nI sm), .ref mk, .ref ml]))] sz) [(h0, .inr (6, [.int (nI 1), .int (nI mi), .int (nI me), .int (nI dp), .int (bI up), .int (nI dn), .ref ma, .ref mx, .ref mh, .ref mg, .ref mc, .ref mo, .ref mr, .ref mf, .long wp, .long wl, .int (nI ru), .int (nI sm), .ref mk, .ref ml]))] (0)) 0 0 (va_A [(h0, .inr (6, [.int (nI thr), .int (nI mi), .int (nI me), .int (nI dp), .int (bI up), .int (nI dn), .ref ma, .ref mx, .ref mh, .ref mg, .ref mc, .ref mo, .ref mr, .ref mf, .long wp, .long wl, .int (nI ru), .int (nI sm), .ref mk, .ref ml]))] sz) := by
  refine Met.ofW (cc := cX6_rain) (maxL := 5) (ret := (some .long)) (by decide) rfl ?_
  intro p e s m args below meth c s₁ B hml hv
  obtain ⟨hargs, hsz, hP, hT, hD0⟩ := hv
  have hx := B.exec
  have hb := B.bytes
  have hr := B.returns
  have hts := atoms_spec (ws := wsX6_rain) B.pre
  have hown : s.vm.findClass RX6 = some m.cls := findClass_of_methodNamed B.named
  have hlocks := B.notSynchronized
  subst hsz
  have hK := hT.1
  have hD := hD0.self (sz := s.heap.size)
  generalize hAe : va_A [(h0, .inr (6, [.int (nI thr), .int (nI mi), .int (nI me), .int (nI dp), .int (bI up), .int (nI dn), .ref ma, .ref mx, .ref mh, .ref mg, .ref mc, .ref mo, .ref mr, .ref mf, .long wp, .long wl, .int (nI ru), .int (nI sm), .ref mk, .ref ml]))] s.heap.size = A at hD ⊢
  have hA : ∀ q : Nat, s.heap.size ≤ q → A q := fun q h => by rw [← hAe]; exact Or.inr h
  have hS : va_S A s.heap s.heap [] := va_S.rf
  obtain ⟨H, hHe⟩ : ∃ H : Heap, H = s.heap := ⟨_, rfl⟩
  have hS : va_S A s.heap H [] := by rw [hHe]; exact va_S.rf
  rw [← hHe] at hP
  suffices K0 : W p l e (headSpec wsX6_rain ({ frames := 2, cells := 0, slots := 0, locals := 42 } : Room)).room s m args below meth c H [] 0 0 (MQ below (Ql9 D A [(h0, .inr (6, [.int (nI 1), .int (nI mi), .int (nI me), .int (nI dp), .int (bI up), .int (nI dn), .ref ma, .ref mx, .ref mh, .ref mg, .ref mc, .ref mo, .ref mr, .ref mf, .long wp, .long wl, .int (nI ru), .int (nI sm), .ref mk, .ref ml]))] (0)) args s 0 0 A) (entryFrame m args 5) by rw [hHe] at K0; exact K0
  refine W.eq (g2 := entryFrame m ([.ref h0, .int x0] : List Value).toArray 5) (by rw [hargs]) ?_
  have hl := lv_entry ([.ref h0, .int x0]) (n := 5) (Nat.le_of_ble_eq_true rfl)
  rw [lg_entry_eq]
  generalize (lg_sl ([.ref h0, .int x0]) ++ List.replicate (5 - (lg_sl ([.ref h0, .int x0])).length) Slot.unset).toArray = ls at hl ⊢
  have hl : lv_has ls 5 [(0, .ref h0), (1, .int x0)] := hl
  generalize ([] : List Loc) = locs at hS ⊢
  refine lv_aload_n hx hb dX6_rain_0 rfl (lv_at hl 0 rfl) ?_
  refine lv_iload_n hx hb dX6_rain_1 rfl (lv_at hl 1 rfl) ?_
  refine cr_i (wc := []) (w1 := []) (ws2 := [(h0, .inr (6, [.int (nI thr), .int (nI mi), .int (nI me), .int (nI dp), .int (bI up), .int (nI dn), .ref ma, .ref mx, .ref mh, .ref mg, .ref mc, .ref mo, .ref mr, .ref mf, .long wp, .long wl, .int (nI ru), .int (nI sm), .ref mk, .ref ml]))]) hP hD hS hA [] rfl rfl rfl (va_runS (As := [.int x0]) (rest := [.ref h0]) ⟨hx, hb, hml, hown, hts⟩ (c_X6_isPlace_F l D cI cJ cZ x0 (by omega) H.size) (va_cwS 1 hts gX6_rain_X6_isPlace rfl rfl rfl (by decide +kernel) ⟨Nat.le_of_ble_eq_true rfl, Nat.le_of_ble_eq_true rfl⟩) (pvS hT hP hD [] rfl rfl) rfl rfl hl.1 rfl (lv_room (Nat.le_of_ble_eq_true rfl)) dX6_rain_2 ⟨Nat.zero_le _, Nat.zero_le _⟩) (fun H locs hP hD hS => ?_)
  refine cb_eq (tgt := 12) hx hb dX6_rain_5 (by decide) (fun c_5 => ?_) (fun c_5 => absurd c_5 (by decide))
  refine lv_iconst (v := nI 1) hx hb dX6_rain_12 (by decide) ?_
  refine cr_i (wc := [(h0, .inr (6, [.int (nI thr), .int (nI mi), .int (nI me), .int (nI dp), .int (bI up), .int (nI dn), .ref ma, .ref mx, .ref mh, .ref mg, .ref mc, .ref mo, .ref mr, .ref mf, .long wp, .long wl, .int (nI ru), .int (nI sm), .ref mk, .ref ml]))]) (w1 := [(h0, .inr (6, [.int (nI 1), .int (nI mi), .int (nI me), .int (nI dp), .int (bI up), .int (nI dn), .ref ma, .ref mx, .ref mh, .ref mg, .ref mc, .ref mo, .ref mr, .ref mf, .long wp, .long wl, .int (nI ru), .int (nI sm), .ref mk, .ref ml]))]) (ws2 := [(h0, .inr (6, [.int (nI 1), .int (nI mi), .int (nI me), .int (nI dp), .int (bI up), .int (nI dn), .ref ma, .ref mx, .ref mh, .ref mg, .ref mc, .ref mo, .ref mr, .ref mf, .long wp, .long wl, .int (nI ru), .int (nI sm), .ref mk, .ref ml]))]) hP hD hS hA [0] rfl rfl rfl (va_runV (As := [.int (nI 1)]) (rest := []) ⟨hx, hb, hml, hown, hts⟩ (c_X6_goesWell_no l D cI cJ cZ h0 thr mi me dp up dn ma mx mh mg mc mo mr mf mk ml wp wl ru sm 1 (by omega) (by omega) H.size) (cwV 1 hts gX6_rain_X6_goesWell rfl rfl rfl (by decide +kernel) ⟨Nat.le_of_ble_eq_true rfl, Nat.le_of_ble_eq_true rfl⟩) (pvV hT hP hD [0] rfl rfl 0 rfl rfl) rfl rfl hl.1 rfl (lv_room (Nat.le_of_ble_eq_true rfl)) dX6_rain_13 ⟨Nat.zero_le _, Nat.zero_le _⟩) (fun H locs hP hD hS => ?_)
  refine cb_ne (tgt := 21) hx hb dX6_rain_16 (by decide) (fun c_16 => absurd c_16 (by decide)) (fun c_16 => ?_)
  refine lv_lconst (v := 0) hx hb dX6_rain_19 (by decide) ?_
  exact fin_l hx hb hr hlocks hP hD hS (rfl) dX6_rain_20
set_option maxHeartbeats 4000000 in
set_option maxRecDepth 100000 in
theorem c_X6_rainBy_b0 (l : Launch) (D : va_G) (cI cJ cZ : ClassId) (h0 : Nat) (thr : Nat) (mi : Nat) (me : Nat) (dp : Nat) (up : Bool) (dn : Nat) (ma : Nat) (mx : Nat) (mh : Nat) (mg : Nat) (mc : Nat) (mo : Nat) (mr : Nat) (mf : Nat) (mk : Nat) (ml : Nat) (wp : Int64) (wl : Int64) (ru : Nat) (sm : Nat) (x0 : Int32) (x1 : Int32) (hbad : x0.toInt < 0 ∨ 20 ≤ x0.toInt) (sz : Nat) : Met l yX6_rainBy wsX6_rainBy ({ frames := 2, cells := 0, slots := 0, locals := 42 } : Room) (va_Pc [.ref h0, .int x0, .int x1] (mPre D cI cJ cZ [(h0, .inr (6, [.int (nI thr), .int (nI mi), .int (nI me), .int (nI dp), .int (bI up), .int (nI dn), .ref ma, .ref mx, .ref mh, .ref mg, .ref mc, .ref mo, .ref mr, .ref mf, .long wp, .long wl, .int (nI ru), .int (nI sm), .ref mk, .ref ml]))] sz)) (Ql9 D (va_A [(h0, .inr (6, [.int (nI thr), .int (nI mi), .int (nI me), .int (nI dp), .int (bI up), .int (nI dn), .ref ma, .ref mx, .ref mh, .ref mg, .ref mc, .ref mo, .ref mr, .ref mf, .long wp, .long wl, .int (nI ru), .int (nI sm), .ref mk, .ref ml]))] sz) [(h0, .inr (6, [.int (nI 1), .int (nI mi), .int (nI me), .int (nI dp), .int (bI up), .int (nI dn), .ref ma, .ref mx, .ref mh, .ref mg, .ref mc, .ref mo, .ref mr, .ref mf, .long wp, .long wl, .int (nI ru), .int (nI sm), .ref mk, .ref ml]))] (0)) 0 0 (va_A [(h0, .inr (6, [.int (nI thr), .int (nI mi), .int (nI me), .int (nI dp), .int (bI up), .int (nI dn), .ref ma, .ref mx, .ref mh, .ref mg, .ref mc, .ref mo, .ref mr, .ref mf, .long wp, .long wl, .int (nI ru), .int (nI sm), .ref mk, .ref ml]))] sz) := by
  refine Met.ofW (cc := cX6_rainBy) (maxL := 7) (ret := (some .long)) (by decide) rfl ?_
  intro p e s m args below meth c s₁ B hml hv
  obtain ⟨hargs, hsz, hP, hT, hD0⟩ := hv
  have hx := B.exec
  have hb := B.bytes
  have hr := B.returns
  have hts := atoms_spec (ws := wsX6_rainBy) B.pre
  have hown : s.vm.findClass RX6 = some m.cls := findClass_of_methodNamed B.named
  have hlocks := B.notSynchronized
  subst hsz
  have hK := hT.1
  have hD := hD0.self (sz := s.heap.size)
  generalize hAe : va_A [(h0, .inr (6, [.int (nI thr), .int (nI mi), .int (nI me), .int (nI dp), .int (bI up), .int (nI dn), .ref ma, .ref mx, .ref mh, .ref mg, .ref mc, .ref mo, .ref mr, .ref mf, .long wp, .long wl, .int (nI ru), .int (nI sm), .ref mk, .ref ml]))] s.heap.size = A at hD ⊢
  have hA : ∀ q : Nat, s.heap.size ≤ q → A q := fun q h => by rw [← hAe]; exact Or.inr h
  have hS : va_S A s.heap s.heap [] := va_S.rf
  obtain ⟨H, hHe⟩ : ∃ H : Heap, H = s.heap := ⟨_, rfl⟩
  have hS : va_S A s.heap H [] := by rw [hHe]; exact va_S.rf
  rw [← hHe] at hP
  suffices K0 : W p l e (headSpec wsX6_rainBy ({ frames := 2, cells := 0, slots := 0, locals := 42 } : Room)).room s m args below meth c H [] 0 0 (MQ below (Ql9 D A [(h0, .inr (6, [.int (nI 1), .int (nI mi), .int (nI me), .int (nI dp), .int (bI up), .int (nI dn), .ref ma, .ref mx, .ref mh, .ref mg, .ref mc, .ref mo, .ref mr, .ref mf, .long wp, .long wl, .int (nI ru), .int (nI sm), .ref mk, .ref ml]))] (0)) args s 0 0 A) (entryFrame m args 7) by rw [hHe] at K0; exact K0
  refine W.eq (g2 := entryFrame m ([.ref h0, .int x0, .int x1] : List Value).toArray 7) (by rw [hargs]) ?_
  have hl := lv_entry ([.ref h0, .int x0, .int x1]) (n := 7) (Nat.le_of_ble_eq_true rfl)
  rw [lg_entry_eq]
  generalize (lg_sl ([.ref h0, .int x0, .int x1]) ++ List.replicate (7 - (lg_sl ([.ref h0, .int x0, .int x1])).length) Slot.unset).toArray = ls at hl ⊢
  have hl : lv_has ls 7 [(0, .ref h0), (1, .int x0), (2, .int x1)] := hl
  generalize ([] : List Loc) = locs at hS ⊢
  refine lv_iload_n hx hb dX6_rainBy_0 rfl (lv_at hl 1 rfl) ?_
  refine cr_i (wc := []) (w1 := []) (ws2 := [(h0, .inr (6, [.int (nI thr), .int (nI mi), .int (nI me), .int (nI dp), .int (bI up), .int (nI dn), .ref ma, .ref mx, .ref mh, .ref mg, .ref mc, .ref mo, .ref mr, .ref mf, .long wp, .long wl, .int (nI ru), .int (nI sm), .ref mk, .ref ml]))]) hP hD hS hA [] rfl rfl rfl (va_runS (As := [.int x0]) (rest := []) ⟨hx, hb, hml, hown, hts⟩ (c_X6_isPlace_F l D cI cJ cZ x0 (by omega) H.size) (va_cwS 1 hts gX6_rainBy_X6_isPlace rfl rfl rfl (by decide +kernel) ⟨Nat.le_of_ble_eq_true rfl, Nat.le_of_ble_eq_true rfl⟩) (pvS hT hP hD [] rfl rfl) rfl rfl hl.1 rfl (lv_room (Nat.le_of_ble_eq_true rfl)) dX6_rainBy_1 ⟨Nat.zero_le _, Nat.zero_le _⟩) (fun H locs hP hD hS => ?_)
  refine lv_istore_n (lv' := [(3, .int (bI false)), (0, .ref h0), (1, .int x0), (2, .int x1)]) hx hb dX6_rainBy_4 rfl hl (by decide) rfl (fun ls hl => ?_)
  refine lv_aload_n hx hb dX6_rainBy_5 rfl (lv_at hl 1 rfl) ?_
  refine lv_iload_n hx hb dX6_rainBy_6 rfl (lv_at hl 0 rfl) ?_
  refine cb_ne (tgt := 14) hx hb dX6_rainBy_7 (by decide) (fun c_7 => absurd c_7 (by decide)) (fun c_7 => ?_)
  refine lv_iconst (v := nI 1) hx hb dX6_rainBy_10 (by decide) ?_
  refine lv_goto (tgt := 30) hx hb dX6_rainBy_11 (by decide) ?_
  refine cr_i (wc := [(h0, .inr (6, [.int (nI thr), .int (nI mi), .int (nI me), .int (nI dp), .int (bI up), .int (nI dn), .ref ma, .ref mx, .ref mh, .ref mg, .ref mc, .ref mo, .ref mr, .ref mf, .long wp, .long wl, .int (nI ru), .int (nI sm), .ref mk, .ref ml]))]) (w1 := [(h0, .inr (6, [.int (nI 1), .int (nI mi), .int (nI me), .int (nI dp), .int (bI up), .int (nI dn), .ref ma, .ref mx, .ref mh, .ref mg, .ref mc, .ref mo, .ref mr, .ref mf, .long wp, .long wl, .int (nI ru), .int (nI sm), .ref mk, .ref ml]))]) (ws2 := [(h0, .inr (6, [.int (nI 1), .int (nI mi), .int (nI me), .int (nI dp), .int (bI up), .int (nI dn), .ref ma, .ref mx, .ref mh, .ref mg, .ref mc, .ref mo, .ref mr, .ref mf, .long wp, .long wl, .int (nI ru), .int (nI sm), .ref mk, .ref ml]))]) hP hD hS hA [0] rfl rfl rfl (va_runV (As := [.int (nI 1)]) (rest := []) ⟨hx, hb, hml, hown, hts⟩ (c_X6_goesWell_no l D cI cJ cZ h0 thr mi me dp up dn ma mx mh mg mc mo mr mf mk ml wp wl ru sm 1 (by omega) (by omega) H.size) (cwV 1 hts gX6_rainBy_X6_goesWell rfl rfl rfl (by decide +kernel) ⟨Nat.le_of_ble_eq_true rfl, Nat.le_of_ble_eq_true rfl⟩) (pvV hT hP hD [0] rfl rfl 0 rfl rfl) rfl rfl hl.1 rfl (lv_room (Nat.le_of_ble_eq_true rfl)) dX6_rainBy_30 ⟨Nat.zero_le _, Nat.zero_le _⟩) (fun H locs hP hD hS => ?_)
  refine cb_ne (tgt := 38) hx hb dX6_rainBy_33 (by decide) (fun c_33 => absurd c_33 (by decide)) (fun c_33 => ?_)
  refine lv_lconst (v := 0) hx hb dX6_rainBy_36 (by decide) ?_
  exact fin_l hx hb hr hlocks hP hD hS (rfl) dX6_rainBy_37
set_option maxHeartbeats 4000000 in
set_option maxRecDepth 100000 in
theorem c_X6_rainBy_b1 (l : Launch) (D : va_G) (cI cJ cZ : ClassId) (h0 : Nat) (thr : Nat) (mi : Nat) (me : Nat) (dp : Nat) (up : Bool) (dn : Nat) (ma : Nat) (mx : Nat) (mh : Nat) (mg : Nat) (mc : Nat) (mo : Nat) (mr : Nat) (mf : Nat) (mk : Nat) (ml : Nat) (wp : Int64) (wl : Int64) (ru : Nat) (sm : Nat) (ki : Nat) (x1 : Int32) (hki : ki < 20) (hbad : x1.toInt < 1 ∨ 1000 < x1.toInt) (sz : Nat) : Met l yX6_rainBy wsX6_rainBy ({ frames := 2, cells := 0, slots := 0, locals := 42 } : Room) (va_Pc [.ref h0, .int (nI ki), .int x1] (mPre D cI cJ cZ [(h0, .inr (6, [.int (nI thr), .int (nI mi), .int (nI me), .int (nI dp), .int (bI up), .int (nI dn), .ref ma, .ref mx, .ref mh, .ref mg, .ref mc, .ref mo, .ref mr, .ref mf, .long wp, .long wl, .int (nI ru), .int (nI sm), .ref mk, .ref ml]))] sz)) (Ql9 D (va_A [(h0, .inr (6, [.int (nI thr), .int (nI mi), .int (nI me), .int (nI dp), .int (bI up), .int (nI dn), .ref ma, .ref mx, .ref mh, .ref mg, .ref mc, .ref mo, .ref mr, .ref mf, .long wp, .long wl, .int (nI ru), .int (nI sm), .ref mk, .ref ml]))] sz) [(h0, .inr (6, [.int (nI 2), .int (nI mi), .int (nI me), .int (nI dp), .int (bI up), .int (nI dn), .ref ma, .ref mx, .ref mh, .ref mg, .ref mc, .ref mo, .ref mr, .ref mf, .long wp, .long wl, .int (nI ru), .int (nI sm), .ref mk, .ref ml]))] (0)) 0 0 (va_A [(h0, .inr (6, [.int (nI thr), .int (nI mi), .int (nI me), .int (nI dp), .int (bI up), .int (nI dn), .ref ma, .ref mx, .ref mh, .ref mg, .ref mc, .ref mo, .ref mr, .ref mf, .long wp, .long wl, .int (nI ru), .int (nI sm), .ref mk, .ref ml]))] sz) := by
  refine Met.ofW (cc := cX6_rainBy) (maxL := 7) (ret := (some .long)) (by decide) rfl ?_
  intro p e s m args below meth c s₁ B hml hv
  obtain ⟨hargs, hsz, hP, hT, hD0⟩ := hv
  have hx := B.exec
  have hb := B.bytes
  have hr := B.returns
  have hts := atoms_spec (ws := wsX6_rainBy) B.pre
  have hown : s.vm.findClass RX6 = some m.cls := findClass_of_methodNamed B.named
  have hlocks := B.notSynchronized
  subst hsz
  have hK := hT.1
  have hD := hD0.self (sz := s.heap.size)
  generalize hAe : va_A [(h0, .inr (6, [.int (nI thr), .int (nI mi), .int (nI me), .int (nI dp), .int (bI up), .int (nI dn), .ref ma, .ref mx, .ref mh, .ref mg, .ref mc, .ref mo, .ref mr, .ref mf, .long wp, .long wl, .int (nI ru), .int (nI sm), .ref mk, .ref ml]))] s.heap.size = A at hD ⊢
  have hA : ∀ q : Nat, s.heap.size ≤ q → A q := fun q h => by rw [← hAe]; exact Or.inr h
  have hS : va_S A s.heap s.heap [] := va_S.rf
  obtain ⟨H, hHe⟩ : ∃ H : Heap, H = s.heap := ⟨_, rfl⟩
  have hS : va_S A s.heap H [] := by rw [hHe]; exact va_S.rf
  rw [← hHe] at hP
  suffices K0 : W p l e (headSpec wsX6_rainBy ({ frames := 2, cells := 0, slots := 0, locals := 42 } : Room)).room s m args below meth c H [] 0 0 (MQ below (Ql9 D A [(h0, .inr (6, [.int (nI 2), .int (nI mi), .int (nI me), .int (nI dp), .int (bI up), .int (nI dn), .ref ma, .ref mx, .ref mh, .ref mg, .ref mc, .ref mo, .ref mr, .ref mf, .long wp, .long wl, .int (nI ru), .int (nI sm), .ref mk, .ref ml]))] (0)) args s 0 0 A) (entryFrame m args 7) by rw [hHe] at K0; exact K0
  refine W.eq (g2 := entryFrame m ([.ref h0, .int (nI ki), .int x1] : List Value).toArray 7) (by rw [hargs]) ?_
  have hl := lv_entry ([.ref h0, .int (nI ki), .int x1]) (n := 7) (Nat.le_of_ble_eq_true rfl)
  rw [lg_entry_eq]
  generalize (lg_sl ([.ref h0, .int (nI ki), .int x1]) ++ List.replicate (7 - (lg_sl ([.ref h0, .int (nI ki), .int x1])).length) Slot.unset).toArray = ls at hl ⊢
  have hl : lv_has ls 7 [(0, .ref h0), (1, .int (nI ki)), (2, .int x1)] := hl
  generalize ([] : List Loc) = locs at hS ⊢
  refine lv_iload_n hx hb dX6_rainBy_0 rfl (lv_at hl 1 rfl) ?_
  refine cr_i (wc := []) (w1 := []) (ws2 := [(h0, .inr (6, [.int (nI thr), .int (nI mi), .int (nI me), .int (nI dp), .int (bI up), .int (nI dn), .ref ma, .ref mx, .ref mh, .ref mg, .ref mc, .ref mo, .ref mr, .ref mf, .long wp, .long wl, .int (nI ru), .int (nI sm), .ref mk, .ref ml]))]) hP hD hS hA [] rfl rfl rfl (va_runS (As := [.int (nI ki)]) (rest := []) ⟨hx, hb, hml, hown, hts⟩ (c_X6_isPlace_T l D cI cJ cZ ki (by omega) H.size) (va_cwS 1 hts gX6_rainBy_X6_isPlace rfl rfl rfl (by decide +kernel) ⟨Nat.le_of_ble_eq_true rfl, Nat.le_of_ble_eq_true rfl⟩) (pvS hT hP hD [] rfl rfl) rfl rfl hl.1 rfl (lv_room (Nat.le_of_ble_eq_true rfl)) dX6_rainBy_1 ⟨Nat.zero_le _, Nat.zero_le _⟩) (fun H locs hP hD hS => ?_)
  refine lv_istore_n (lv' := [(3, .int (bI true)), (0, .ref h0), (1, .int (nI ki)), (2, .int x1)]) hx hb dX6_rainBy_4 rfl hl (by decide) rfl (fun ls hl => ?_)
  refine lv_aload_n hx hb dX6_rainBy_5 rfl (lv_at hl 1 rfl) ?_
  refine lv_iload_n hx hb dX6_rainBy_6 rfl (lv_at hl 0 rfl) ?_
  refine cb_ne (tgt := 14) hx hb dX6_rainBy_7 (by decide) (fun c_7 => ?_) (fun c_7 => absurd c_7 (by decide))
  refine lv_iload_n hx hb dX6_rainBy_14 rfl (lv_at hl 3 rfl) ?_
  refine lv_iconst (v := nI 1) hx hb dX6_rainBy_15 (by decide) ?_
  refine lv_sipush (v := nI 1000) hx hb dX6_rainBy_16 (by decide) ?_
  refine cr_i (wc := []) (w1 := []) (ws2 := [(h0, .inr (6, [.int (nI thr), .int (nI mi), .int (nI me), .int (nI dp), .int (bI up), .int (nI dn), .ref ma, .ref mx, .ref mh, .ref mg, .ref mc, .ref mo, .ref mr, .ref mf, .long wp, .long wl, .int (nI ru), .int (nI sm), .ref mk, .ref ml]))]) hP hD hS hA [] rfl rfl rfl (va_runS (As := [.int x1, .int (nI 1), .int (nI 1000)]) (rest := [.ref h0]) ⟨hx, hb, hml, hown, hts⟩ (c_X6_in_F l D cI cJ cZ x1 1 1000 (by omega) (by omega) (by omega) H.size) (va_cwS 3 hts gX6_rainBy_X6_in rfl rfl rfl (by decide +kernel) ⟨Nat.le_of_ble_eq_true rfl, Nat.le_of_ble_eq_true rfl⟩) (pvS hT hP hD [] rfl rfl) rfl rfl hl.1 rfl (lv_room (Nat.le_of_ble_eq_true rfl)) dX6_rainBy_19 ⟨Nat.zero_le _, Nat.zero_le _⟩) (fun H locs hP hD hS => ?_)
  refine cb_eq (tgt := 29) hx hb dX6_rainBy_22 (by decide) (fun c_22 => ?_) (fun c_22 => absurd c_22 (by decide))
  refine lv_iconst (v := nI 2) hx hb dX6_rainBy_29 (by decide) ?_
  refine cr_i (wc := [(h0, .inr (6, [.int (nI thr), .int (nI mi), .int (nI me), .int (nI dp), .int (bI up), .int (nI dn), .ref ma, .ref mx, .ref mh, .ref mg, .ref mc, .ref mo, .ref mr, .ref mf, .long wp, .long wl, .int (nI ru), .int (nI sm), .ref mk, .ref ml]))]) (w1 := [(h0, .inr (6, [.int (nI 2), .int (nI mi), .int (nI me), .int (nI dp), .int (bI up), .int (nI dn), .ref ma, .ref mx, .ref mh, .ref mg, .ref mc, .ref mo, .ref mr, .ref mf, .long wp, .long wl, .int (nI ru), .int (nI sm), .ref mk, .ref ml]))]) (ws2 := [(h0, .inr (6, [.int (nI 2), .int (nI mi), .int (nI me), .int (nI dp), .int (bI up), .int (nI dn), .ref ma, .ref mx, .ref mh, .ref mg, .ref mc, .ref mo, .ref mr, .ref mf, .long wp, .long wl, .int (nI ru), .int (nI sm), .ref mk, .ref ml]))]) hP hD hS hA [0] rfl rfl rfl (va_runV (As := [.int (nI 2)]) (rest := []) ⟨hx, hb, hml, hown, hts⟩ (c_X6_goesWell_no l D cI cJ cZ h0 thr mi me dp up dn ma mx mh mg mc mo mr mf mk ml wp wl ru sm 2 (by omega) (by omega) H.size) (cwV 1 hts gX6_rainBy_X6_goesWell rfl rfl rfl (by decide +kernel) ⟨Nat.le_of_ble_eq_true rfl, Nat.le_of_ble_eq_true rfl⟩) (pvV hT hP hD [0] rfl rfl 0 rfl rfl) rfl rfl hl.1 rfl (lv_room (Nat.le_of_ble_eq_true rfl)) dX6_rainBy_30 ⟨Nat.zero_le _, Nat.zero_le _⟩) (fun H locs hP hD hS => ?_)
  refine cb_ne (tgt := 38) hx hb dX6_rainBy_33 (by decide) (fun c_33 => absurd c_33 (by decide)) (fun c_33 => ?_)
  refine lv_lconst (v := 0) hx hb dX6_rainBy_36 (by decide) ?_
  exact fin_l hx hb hr hlocks hP hD hS (rfl) dX6_rainBy_37
set_option maxHeartbeats 4000000 in
set_option maxRecDepth 100000 in
theorem c_X6_motion_b0 (l : Launch) (D : va_G) (cI cJ cZ : ClassId) (h0 : Nat) (thr : Nat) (mi : Nat) (me : Nat) (dp : Nat) (up : Bool) (dn : Nat) (ma : Nat) (mx : Nat) (mh : Nat) (mg : Nat) (mc : Nat) (mo : Nat) (mr : Nat) (mf : Nat) (mk : Nat) (ml : Nat) (wp : Int64) (wl : Int64) (ru : Nat) (sm : Nat) (hsm : sm < 2) (sz : Nat) : Met l yX6_motion wsX6_motion ({ frames := 1, cells := 0, slots := 0, locals := 21 } : Room) (va_Pc [.ref h0] (mPre D cI cJ cZ [(h0, .inr (6, [.int (nI thr), .int (nI mi), .int (nI me), .int (nI dp), .int (bI up), .int (nI dn), .ref ma, .ref mx, .ref mh, .ref mg, .ref mc, .ref mo, .ref mr, .ref mf, .long wp, .long wl, .int (nI ru), .int (nI sm), .ref mk, .ref ml]))] sz)) (Qi9 D (va_A [(h0, .inr (6, [.int (nI thr), .int (nI mi), .int (nI me), .int (nI dp), .int (bI up), .int (nI dn), .ref ma, .ref mx, .ref mh, .ref mg, .ref mc, .ref mo, .ref mr, .ref mf, .long wp, .long wl, .int (nI ru), .int (nI sm), .ref mk, .ref ml]))] sz) [(h0, .inr (6, [.int (nI 1), .int (nI mi), .int (nI me), .int (nI dp), .int (bI up), .int (nI dn), .ref ma, .ref mx, .ref mh, .ref mg, .ref mc, .ref mo, .ref mr, .ref mf, .long wp, .long wl, .int (nI ru), .int (nI sm), .ref mk, .ref ml]))] (nI 0)) 0 0 (va_A [(h0, .inr (6, [.int (nI thr), .int (nI mi), .int (nI me), .int (nI dp), .int (bI up), .int (nI dn), .ref ma, .ref mx, .ref mh, .ref mg, .ref mc, .ref mo, .ref mr, .ref mf, .long wp, .long wl, .int (nI ru), .int (nI sm), .ref mk, .ref ml]))] sz) := by
  refine Met.ofW (cc := cX6_motion) (maxL := 8) (ret := (some .int)) (by decide) rfl ?_
  intro p e s m args below meth c s₁ B hml hv
  obtain ⟨hargs, hsz, hP, hT, hD0⟩ := hv
  have hx := B.exec
  have hb := B.bytes
  have hr := B.returns
  have hts := atoms_spec (ws := wsX6_motion) B.pre
  have hown : s.vm.findClass RX6 = some m.cls := findClass_of_methodNamed B.named
  have hlocks := B.notSynchronized
  subst hsz
  have hK := hT.1
  have hD := hD0.self (sz := s.heap.size)
  generalize hAe : va_A [(h0, .inr (6, [.int (nI thr), .int (nI mi), .int (nI me), .int (nI dp), .int (bI up), .int (nI dn), .ref ma, .ref mx, .ref mh, .ref mg, .ref mc, .ref mo, .ref mr, .ref mf, .long wp, .long wl, .int (nI ru), .int (nI sm), .ref mk, .ref ml]))] s.heap.size = A at hD ⊢
  have hA : ∀ q : Nat, s.heap.size ≤ q → A q := fun q h => by rw [← hAe]; exact Or.inr h
  have hS : va_S A s.heap s.heap [] := va_S.rf
  obtain ⟨H, hHe⟩ : ∃ H : Heap, H = s.heap := ⟨_, rfl⟩
  have hS : va_S A s.heap H [] := by rw [hHe]; exact va_S.rf
  rw [← hHe] at hP
  suffices K0 : W p l e (headSpec wsX6_motion ({ frames := 1, cells := 0, slots := 0, locals := 21 } : Room)).room s m args below meth c H [] 0 0 (MQ below (Qi9 D A [(h0, .inr (6, [.int (nI 1), .int (nI mi), .int (nI me), .int (nI dp), .int (bI up), .int (nI dn), .ref ma, .ref mx, .ref mh, .ref mg, .ref mc, .ref mo, .ref mr, .ref mf, .long wp, .long wl, .int (nI ru), .int (nI sm), .ref mk, .ref ml]))] (nI 0)) args s 0 0 A) (entryFrame m args 8) by rw [hHe] at K0; exact K0
  refine W.eq (g2 := entryFrame m ([.ref h0] : List Value).toArray 8) (by rw [hargs]) ?_
  have hl := lv_entry ([.ref h0]) (n := 8) (Nat.le_of_ble_eq_true rfl)
  rw [lg_entry_eq]
  generalize (lg_sl ([.ref h0]) ++ List.replicate (8 - (lg_sl ([.ref h0])).length) Slot.unset).toArray = ls at hl ⊢
  have hl : lv_has ls 8 [(0, .ref h0)] := hl
  generalize ([] : List Loc) = locs at hS ⊢
  have hinX6 : ∀ w ∈ wsX60, w ∈ wsX6_motion := by decide +kernel
  have hf151 := hts (.fieldLink RX6 151 "BrightbandModel" "scans" "I") (by decide +kernel)
  refine lv_aload_n hx hb dX6_motion_0 rfl (lv_at hl 0 rfl) ?_
  refine lv_aload_n hx hb dX6_motion_1 rfl (lv_at hl 0 rfl) ?_
  refine va_get (D := D) (ci := 6) (v := .int (nI sm)) (C := RX6) (T := TX6) (N := 20) hx hb hts hinX6 hown hK hP 0 rfl rfl 17 (by decide) hf151 (fun _ h9 => h9) rfl dX6_motion_2 ?_
  refine lv_iconst (v := nI 2) hx hb dX6_motion_5 (by decide) ?_
  refine ci_ge (tgt := 13) hx hb dX6_motion_6 (by decide) (nT (by omega)) (nT (by omega)) (fun c_6 => by omega) (fun c_6 => ?_)
  refine lv_iconst (v := nI 1) hx hb dX6_motion_9 (by decide) ?_
  refine lv_goto (tgt := 14) hx hb dX6_motion_10 (by decide) ?_
  refine cr_i (wc := [(h0, .inr (6, [.int (nI thr), .int (nI mi), .int (nI me), .int (nI dp), .int (bI up), .int (nI dn), .ref ma, .ref mx, .ref mh, .ref mg, .ref mc, .ref mo, .ref mr, .ref mf, .long wp, .long wl, .int (nI ru), .int (nI sm), .ref mk, .ref ml]))]) (w1 := [(h0, .inr (6, [.int (nI 1), .int (nI mi), .int (nI me), .int (nI dp), .int (bI up), .int (nI dn), .ref ma, .ref mx, .ref mh, .ref mg, .ref mc, .ref mo, .ref mr, .ref mf, .long wp, .long wl, .int (nI ru), .int (nI sm), .ref mk, .ref ml]))]) (ws2 := [(h0, .inr (6, [.int (nI 1), .int (nI mi), .int (nI me), .int (nI dp), .int (bI up), .int (nI dn), .ref ma, .ref mx, .ref mh, .ref mg, .ref mc, .ref mo, .ref mr, .ref mf, .long wp, .long wl, .int (nI ru), .int (nI sm), .ref mk, .ref ml]))]) hP hD hS hA [0] rfl rfl rfl (va_runV (As := [.int (nI 1)]) (rest := []) ⟨hx, hb, hml, hown, hts⟩ (c_X6_goesWell_no l D cI cJ cZ h0 thr mi me dp up dn ma mx mh mg mc mo mr mf mk ml wp wl ru sm 1 (by omega) (by omega) H.size) (cwV 1 hts gX6_motion_X6_goesWell rfl rfl rfl (by decide +kernel) ⟨Nat.le_of_ble_eq_true rfl, Nat.le_of_ble_eq_true rfl⟩) (pvV hT hP hD [0] rfl rfl 0 rfl rfl) rfl rfl hl.1 rfl (lv_room (Nat.le_of_ble_eq_true rfl)) dX6_motion_14 ⟨Nat.zero_le _, Nat.zero_le _⟩) (fun H locs hP hD hS => ?_)
  refine cb_ne (tgt := 22) hx hb dX6_motion_17 (by decide) (fun c_17 => absurd c_17 (by decide)) (fun c_17 => ?_)
  refine lv_iconst (v := nI 0) hx hb dX6_motion_20 (by decide) ?_
  exact fin_i hx hb hr hlocks hP hD hS (rfl) dX6_motion_21
set_option maxHeartbeats 4000000 in
set_option maxRecDepth 100000 in
theorem c_X6_collected_b0 (l : Launch) (D : va_G) (cI cJ cZ : ClassId) (h0 : Nat) (thr : Nat) (mi : Nat) (me : Nat) (dp : Nat) (up : Bool) (dn : Nat) (ma : Nat) (mx : Nat) (mh : Nat) (mg : Nat) (mc : Nat) (mo : Nat) (mr : Nat) (mf : Nat) (mk : Nat) (ml : Nat) (wp : Int64) (wl : Int64) (ru : Nat) (sm : Nat) (x0 : Int32) (hbad : x0.toInt < 0 ∨ 20 ≤ x0.toInt) (sz : Nat) : Met l yX6_collected wsX6_collected ({ frames := 2, cells := 0, slots := 0, locals := 42 } : Room) (va_Pc [.ref h0, .int x0] (mPre D cI cJ cZ [(h0, .inr (6, [.int (nI thr), .int (nI mi), .int (nI me), .int (nI dp), .int (bI up), .int (nI dn), .ref ma, .ref mx, .ref mh, .ref mg, .ref mc, .ref mo, .ref mr, .ref mf, .long wp, .long wl, .int (nI ru), .int (nI sm), .ref mk, .ref ml]))] sz)) (Ql9 D (va_A [(h0, .inr (6, [.int (nI thr), .int (nI mi), .int (nI me), .int (nI dp), .int (bI up), .int (nI dn), .ref ma, .ref mx, .ref mh, .ref mg, .ref mc, .ref mo, .ref mr, .ref mf, .long wp, .long wl, .int (nI ru), .int (nI sm), .ref mk, .ref ml]))] sz) [(h0, .inr (6, [.int (nI 1), .int (nI mi), .int (nI me), .int (nI dp), .int (bI up), .int (nI dn), .ref ma, .ref mx, .ref mh, .ref mg, .ref mc, .ref mo, .ref mr, .ref mf, .long wp, .long wl, .int (nI ru), .int (nI sm), .ref mk, .ref ml]))] (0)) 0 0 (va_A [(h0, .inr (6, [.int (nI thr), .int (nI mi), .int (nI me), .int (nI dp), .int (bI up), .int (nI dn), .ref ma, .ref mx, .ref mh, .ref mg, .ref mc, .ref mo, .ref mr, .ref mf, .long wp, .long wl, .int (nI ru), .int (nI sm), .ref mk, .ref ml]))] sz) := by
  refine Met.ofW (cc := cX6_collected) (maxL := 2) (ret := (some .long)) (by decide) rfl ?_
  intro p e s m args below meth c s₁ B hml hv
  obtain ⟨hargs, hsz, hP, hT, hD0⟩ := hv
  have hx := B.exec
  have hb := B.bytes
  have hr := B.returns
  have hts := atoms_spec (ws := wsX6_collected) B.pre
  have hown : s.vm.findClass RX6 = some m.cls := findClass_of_methodNamed B.named
  have hlocks := B.notSynchronized
  subst hsz
  have hK := hT.1
  have hD := hD0.self (sz := s.heap.size)
  generalize hAe : va_A [(h0, .inr (6, [.int (nI thr), .int (nI mi), .int (nI me), .int (nI dp), .int (bI up), .int (nI dn), .ref ma, .ref mx, .ref mh, .ref mg, .ref mc, .ref mo, .ref mr, .ref mf, .long wp, .long wl, .int (nI ru), .int (nI sm), .ref mk, .ref ml]))] s.heap.size = A at hD ⊢
  have hA : ∀ q : Nat, s.heap.size ≤ q → A q := fun q h => by rw [← hAe]; exact Or.inr h
  have hS : va_S A s.heap s.heap [] := va_S.rf
  obtain ⟨H, hHe⟩ : ∃ H : Heap, H = s.heap := ⟨_, rfl⟩
  have hS : va_S A s.heap H [] := by rw [hHe]; exact va_S.rf
  rw [← hHe] at hP
  suffices K0 : W p l e (headSpec wsX6_collected ({ frames := 2, cells := 0, slots := 0, locals := 42 } : Room)).room s m args below meth c H [] 0 0 (MQ below (Ql9 D A [(h0, .inr (6, [.int (nI 1), .int (nI mi), .int (nI me), .int (nI dp), .int (bI up), .int (nI dn), .ref ma, .ref mx, .ref mh, .ref mg, .ref mc, .ref mo, .ref mr, .ref mf, .long wp, .long wl, .int (nI ru), .int (nI sm), .ref mk, .ref ml]))] (0)) args s 0 0 A) (entryFrame m args 2) by rw [hHe] at K0; exact K0
  refine W.eq (g2 := entryFrame m ([.ref h0, .int x0] : List Value).toArray 2) (by rw [hargs]) ?_
  have hl := lv_entry ([.ref h0, .int x0]) (n := 2) (Nat.le_of_ble_eq_true rfl)
  rw [lg_entry_eq]
  generalize (lg_sl ([.ref h0, .int x0]) ++ List.replicate (2 - (lg_sl ([.ref h0, .int x0])).length) Slot.unset).toArray = ls at hl ⊢
  have hl : lv_has ls 2 [(0, .ref h0), (1, .int x0)] := hl
  generalize ([] : List Loc) = locs at hS ⊢
  refine lv_aload_n hx hb dX6_collected_0 rfl (lv_at hl 0 rfl) ?_
  refine lv_iload_n hx hb dX6_collected_1 rfl (lv_at hl 1 rfl) ?_
  refine cr_i (wc := []) (w1 := []) (ws2 := [(h0, .inr (6, [.int (nI thr), .int (nI mi), .int (nI me), .int (nI dp), .int (bI up), .int (nI dn), .ref ma, .ref mx, .ref mh, .ref mg, .ref mc, .ref mo, .ref mr, .ref mf, .long wp, .long wl, .int (nI ru), .int (nI sm), .ref mk, .ref ml]))]) hP hD hS hA [] rfl rfl rfl (va_runS (As := [.int x0]) (rest := [.ref h0]) ⟨hx, hb, hml, hown, hts⟩ (c_X6_isPlace_F l D cI cJ cZ x0 (by omega) H.size) (va_cwS 1 hts gX6_collected_X6_isPlace rfl rfl rfl (by decide +kernel) ⟨Nat.le_of_ble_eq_true rfl, Nat.le_of_ble_eq_true rfl⟩) (pvS hT hP hD [] rfl rfl) rfl rfl hl.1 rfl (lv_room (Nat.le_of_ble_eq_true rfl)) dX6_collected_2 ⟨Nat.zero_le _, Nat.zero_le _⟩) (fun H locs hP hD hS => ?_)
  refine cb_eq (tgt := 21) hx hb dX6_collected_5 (by decide) (fun c_5 => ?_) (fun c_5 => absurd c_5 (by decide))
  refine lv_iconst (v := nI 1) hx hb dX6_collected_21 (by decide) ?_
  refine cr_i (wc := [(h0, .inr (6, [.int (nI thr), .int (nI mi), .int (nI me), .int (nI dp), .int (bI up), .int (nI dn), .ref ma, .ref mx, .ref mh, .ref mg, .ref mc, .ref mo, .ref mr, .ref mf, .long wp, .long wl, .int (nI ru), .int (nI sm), .ref mk, .ref ml]))]) (w1 := [(h0, .inr (6, [.int (nI 1), .int (nI mi), .int (nI me), .int (nI dp), .int (bI up), .int (nI dn), .ref ma, .ref mx, .ref mh, .ref mg, .ref mc, .ref mo, .ref mr, .ref mf, .long wp, .long wl, .int (nI ru), .int (nI sm), .ref mk, .ref ml]))]) (ws2 := [(h0, .inr (6, [.int (nI 1), .int (nI mi), .int (nI me), .int (nI dp), .int (bI up), .int (nI dn), .ref ma, .ref mx, .ref mh, .ref mg, .ref mc, .ref mo, .ref mr, .ref mf, .long wp, .long wl, .int (nI ru), .int (nI sm), .ref mk, .ref ml]))]) hP hD hS hA [0] rfl rfl rfl (va_runV (As := [.int (nI 1)]) (rest := []) ⟨hx, hb, hml, hown, hts⟩ (c_X6_goesWell_no l D cI cJ cZ h0 thr mi me dp up dn ma mx mh mg mc mo mr mf mk ml wp wl ru sm 1 (by omega) (by omega) H.size) (cwV 1 hts gX6_collected_X6_goesWell rfl rfl rfl (by decide +kernel) ⟨Nat.le_of_ble_eq_true rfl, Nat.le_of_ble_eq_true rfl⟩) (pvV hT hP hD [0] rfl rfl 0 rfl rfl) rfl rfl hl.1 rfl (lv_room (Nat.le_of_ble_eq_true rfl)) dX6_collected_22 ⟨Nat.zero_le _, Nat.zero_le _⟩) (fun H locs hP hD hS => ?_)
  refine cb_eq (tgt := 37) hx hb dX6_collected_25 (by decide) (fun c_25 => ?_) (fun c_25 => absurd c_25 (by decide))
  refine lv_lconst (v := 0) hx hb dX6_collected_37 (by decide) ?_
  exact fin_l hx hb hr hlocks hP hD hS (rfl) dX6_collected_38
set_option maxHeartbeats 4000000 in
set_option maxRecDepth 100000 in
theorem c_X6_collected_b1 (l : Launch) (D : va_G) (cI cJ cZ : ClassId) (h0 : Nat) (thr : Nat) (mi : Nat) (me : Nat) (dp : Nat) (up : Bool) (dn : Nat) (ma : Nat) (mx : Nat) (mh : Nat) (mg : Nat) (mc : Nat) (mo : Nat) (mr : Nat) (mf : Nat) (mk : Nat) (ml : Nat) (wp : Int64) (wl : Int64) (ru : Nat) (sm : Nat) (UP : Nat → Bool) (ki : Nat) (hki : ki < 20) (hup : UP ki = false) (sz : Nat) : Met l yX6_collected wsX6_collected ({ frames := 2, cells := 0, slots := 0, locals := 42 } : Room) (va_Pc [.ref h0, .int (nI ki)] (mPre D cI cJ cZ [(h0, .inr (6, [.int (nI thr), .int (nI mi), .int (nI me), .int (nI dp), .int (bI up), .int (nI dn), .ref ma, .ref mx, .ref mh, .ref mg, .ref mc, .ref mo, .ref mr, .ref mf, .long wp, .long wl, .int (nI ru), .int (nI sm), .ref mk, .ref ml])), (mg, .inl (cZ, 20, .inl (bA UP)))] sz)) (Ql9 D (va_A [(h0, .inr (6, [.int (nI thr), .int (nI mi), .int (nI me), .int (nI dp), .int (bI up), .int (nI dn), .ref ma, .ref mx, .ref mh, .ref mg, .ref mc, .ref mo, .ref mr, .ref mf, .long wp, .long wl, .int (nI ru), .int (nI sm), .ref mk, .ref ml])), (mg, .inl (cZ, 20, .inl (bA UP)))] sz) [(h0, .inr (6, [.int (nI 1), .int (nI mi), .int (nI me), .int (nI dp), .int (bI up), .int (nI dn), .ref ma, .ref mx, .ref mh, .ref mg, .ref mc, .ref mo, .ref mr, .ref mf, .long wp, .long wl, .int (nI ru), .int (nI sm), .ref mk, .ref ml])), (mg, .inl (cZ, 20, .inl (bA UP)))] (0)) 0 0 (va_A [(h0, .inr (6, [.int (nI thr), .int (nI mi), .int (nI me), .int (nI dp), .int (bI up), .int (nI dn), .ref ma, .ref mx, .ref mh, .ref mg, .ref mc, .ref mo, .ref mr, .ref mf, .long wp, .long wl, .int (nI ru), .int (nI sm), .ref mk, .ref ml])), (mg, .inl (cZ, 20, .inl (bA UP)))] sz) := by
  refine Met.ofW (cc := cX6_collected) (maxL := 2) (ret := (some .long)) (by decide) rfl ?_
  intro p e s m args below meth c s₁ B hml hv
  obtain ⟨hargs, hsz, hP, hT, hD0⟩ := hv
  have hx := B.exec
  have hb := B.bytes
  have hr := B.returns
  have hts := atoms_spec (ws := wsX6_collected) B.pre
  have hown : s.vm.findClass RX6 = some m.cls := findClass_of_methodNamed B.named
  have hlocks := B.notSynchronized
  subst hsz
  have hK := hT.1
  have hD := hD0.self (sz := s.heap.size)
  generalize hAe : va_A [(h0, .inr (6, [.int (nI thr), .int (nI mi), .int (nI me), .int (nI dp), .int (bI up), .int (nI dn), .ref ma, .ref mx, .ref mh, .ref mg, .ref mc, .ref mo, .ref mr, .ref mf, .long wp, .long wl, .int (nI ru), .int (nI sm), .ref mk, .ref ml])), (mg, .inl (cZ, 20, .inl (bA UP)))] s.heap.size = A at hD ⊢
  have hA : ∀ q : Nat, s.heap.size ≤ q → A q := fun q h => by rw [← hAe]; exact Or.inr h
  have hS : va_S A s.heap s.heap [] := va_S.rf
  obtain ⟨H, hHe⟩ : ∃ H : Heap, H = s.heap := ⟨_, rfl⟩
  have hS : va_S A s.heap H [] := by rw [hHe]; exact va_S.rf
  rw [← hHe] at hP
  suffices K0 : W p l e (headSpec wsX6_collected ({ frames := 2, cells := 0, slots := 0, locals := 42 } : Room)).room s m args below meth c H [] 0 0 (MQ below (Ql9 D A [(h0, .inr (6, [.int (nI 1), .int (nI mi), .int (nI me), .int (nI dp), .int (bI up), .int (nI dn), .ref ma, .ref mx, .ref mh, .ref mg, .ref mc, .ref mo, .ref mr, .ref mf, .long wp, .long wl, .int (nI ru), .int (nI sm), .ref mk, .ref ml])), (mg, .inl (cZ, 20, .inl (bA UP)))] (0)) args s 0 0 A) (entryFrame m args 2) by rw [hHe] at K0; exact K0
  refine W.eq (g2 := entryFrame m ([.ref h0, .int (nI ki)] : List Value).toArray 2) (by rw [hargs]) ?_
  have hl := lv_entry ([.ref h0, .int (nI ki)]) (n := 2) (Nat.le_of_ble_eq_true rfl)
  rw [lg_entry_eq]
  generalize (lg_sl ([.ref h0, .int (nI ki)]) ++ List.replicate (2 - (lg_sl ([.ref h0, .int (nI ki)])).length) Slot.unset).toArray = ls at hl ⊢
  have hl : lv_has ls 2 [(0, .ref h0), (1, .int (nI ki))] := hl
  generalize ([] : List Loc) = locs at hS ⊢
  have hinX6 : ∀ w ∈ wsX60, w ∈ wsX6_collected := by decide +kernel
  have hf23 := hts (.fieldLink RX6 23 "BrightbandModel" "hasGauge" "[Z") (by decide +kernel)
  refine lv_aload_n hx hb dX6_collected_0 rfl (lv_at hl 0 rfl) ?_
  refine lv_iload_n hx hb dX6_collected_1 rfl (lv_at hl 1 rfl) ?_
  refine cr_i (wc := []) (w1 := []) (ws2 := [(h0, .inr (6, [.int (nI thr), .int (nI mi), .int (nI me), .int (nI dp), .int (bI up), .int (nI dn), .ref ma, .ref mx, .ref mh, .ref mg, .ref mc, .ref mo, .ref mr, .ref mf, .long wp, .long wl, .int (nI ru), .int (nI sm), .ref mk, .ref ml])), (mg, .inl (cZ, 20, .inl (bA UP)))]) hP hD hS hA [] rfl rfl rfl (va_runS (As := [.int (nI ki)]) (rest := [.ref h0]) ⟨hx, hb, hml, hown, hts⟩ (c_X6_isPlace_T l D cI cJ cZ ki (by omega) H.size) (va_cwS 1 hts gX6_collected_X6_isPlace rfl rfl rfl (by decide +kernel) ⟨Nat.le_of_ble_eq_true rfl, Nat.le_of_ble_eq_true rfl⟩) (pvS hT hP hD [] rfl rfl) rfl rfl hl.1 rfl (lv_room (Nat.le_of_ble_eq_true rfl)) dX6_collected_2 ⟨Nat.zero_le _, Nat.zero_le _⟩) (fun H locs hP hD hS => ?_)
  refine cb_eq (tgt := 21) hx hb dX6_collected_5 (by decide) (fun c_5 => absurd c_5 (by decide)) (fun c_5 => ?_)
  refine lv_aload_n hx hb dX6_collected_8 rfl (lv_at hl 0 rfl) ?_
  refine va_get (D := D) (ci := 6) (v := .ref mg) (C := RX6) (T := TX6) (N := 20) hx hb hts hinX6 hown hK hP 0 rfl rfl 9 (by decide) hf23 (fun _ h9 => h9) rfl dX6_collected_9 ?_
  refine lv_iload_n hx hb dX6_collected_12 rfl (lv_at hl 1 rfl) ?_
  refine ald_B hx hb hK hP 1 2 rfl rfl ki rfl (by omega) (Nat.le_of_ble_eq_true rfl) dX6_collected_13 ?_
  refine cb_eq (tgt := 21) hx hb dX6_collected_14 (by decide) (fun c_14 => ?_) (fun c_14 => by rw [hup] at c_14; cases c_14)
  refine lv_iconst (v := nI 1) hx hb dX6_collected_21 (by decide) ?_
  refine cr_i (wc := [(h0, .inr (6, [.int (nI thr), .int (nI mi), .int (nI me), .int (nI dp), .int (bI up), .int (nI dn), .ref ma, .ref mx, .ref mh, .ref mg, .ref mc, .ref mo, .ref mr, .ref mf, .long wp, .long wl, .int (nI ru), .int (nI sm), .ref mk, .ref ml]))]) (w1 := [(h0, .inr (6, [.int (nI 1), .int (nI mi), .int (nI me), .int (nI dp), .int (bI up), .int (nI dn), .ref ma, .ref mx, .ref mh, .ref mg, .ref mc, .ref mo, .ref mr, .ref mf, .long wp, .long wl, .int (nI ru), .int (nI sm), .ref mk, .ref ml]))]) (ws2 := [(h0, .inr (6, [.int (nI 1), .int (nI mi), .int (nI me), .int (nI dp), .int (bI up), .int (nI dn), .ref ma, .ref mx, .ref mh, .ref mg, .ref mc, .ref mo, .ref mr, .ref mf, .long wp, .long wl, .int (nI ru), .int (nI sm), .ref mk, .ref ml])), (mg, .inl (cZ, 20, .inl (bA UP)))]) hP hD hS hA [0] rfl rfl rfl (va_runV (As := [.int (nI 1)]) (rest := []) ⟨hx, hb, hml, hown, hts⟩ (c_X6_goesWell_no l D cI cJ cZ h0 thr mi me dp up dn ma mx mh mg mc mo mr mf mk ml wp wl ru sm 1 (by omega) (by omega) H.size) (cwV 1 hts gX6_collected_X6_goesWell rfl rfl rfl (by decide +kernel) ⟨Nat.le_of_ble_eq_true rfl, Nat.le_of_ble_eq_true rfl⟩) (pvV hT hP hD [0] rfl rfl 0 rfl rfl) rfl rfl hl.1 rfl (lv_room (Nat.le_of_ble_eq_true rfl)) dX6_collected_22 ⟨Nat.zero_le _, Nat.zero_le _⟩) (fun H locs hP hD hS => ?_)
  refine cb_eq (tgt := 37) hx hb dX6_collected_25 (by decide) (fun c_25 => ?_) (fun c_25 => absurd c_25 (by decide))
  refine lv_lconst (v := 0) hx hb dX6_collected_37 (by decide) ?_
  exact fin_l hx hb hr hlocks hP hD hS (rfl) dX6_collected_38
set_option maxHeartbeats 4000000 in
set_option maxRecDepth 100000 in
theorem c_X6_ground_b0 (l : Launch) (D : va_G) (cI cJ cZ : ClassId) (h0 : Nat) (thr : Nat) (mi : Nat) (me : Nat) (dp : Nat) (up : Bool) (dn : Nat) (ma : Nat) (mx : Nat) (mh : Nat) (mg : Nat) (mc : Nat) (mo : Nat) (mr : Nat) (mf : Nat) (mk : Nat) (ml : Nat) (wp : Int64) (wl : Int64) (ru : Nat) (sm : Nat) (x0 : Int32) (hbad : x0.toInt < 0 ∨ 20 ≤ x0.toInt) (sz : Nat) : Met l yX6_ground wsX6_ground ({ frames := 2, cells := 0, slots := 0, locals := 42 } : Room) (va_Pc [.ref h0, .int x0] (mPre D cI cJ cZ [(h0, .inr (6, [.int (nI thr), .int (nI mi), .int (nI me), .int (nI dp), .int (bI up), .int (nI dn), .ref ma, .ref mx, .ref mh, .ref mg, .ref mc, .ref mo, .ref mr, .ref mf, .long wp, .long wl, .int (nI ru), .int (nI sm), .ref mk, .ref ml]))] sz)) (Ql9 D (va_A [(h0, .inr (6, [.int (nI thr), .int (nI mi), .int (nI me), .int (nI dp), .int (bI up), .int (nI dn), .ref ma, .ref mx, .ref mh, .ref mg, .ref mc, .ref mo, .ref mr, .ref mf, .long wp, .long wl, .int (nI ru), .int (nI sm), .ref mk, .ref ml]))] sz) [(h0, .inr (6, [.int (nI 1), .int (nI mi), .int (nI me), .int (nI dp), .int (bI up), .int (nI dn), .ref ma, .ref mx, .ref mh, .ref mg, .ref mc, .ref mo, .ref mr, .ref mf, .long wp, .long wl, .int (nI ru), .int (nI sm), .ref mk, .ref ml]))] (0)) 0 0 (va_A [(h0, .inr (6, [.int (nI thr), .int (nI mi), .int (nI me), .int (nI dp), .int (bI up), .int (nI dn), .ref ma, .ref mx, .ref mh, .ref mg, .ref mc, .ref mo, .ref mr, .ref mf, .long wp, .long wl, .int (nI ru), .int (nI sm), .ref mk, .ref ml]))] sz) := by
  refine Met.ofW (cc := cX6_ground) (maxL := 2) (ret := (some .long)) (by decide) rfl ?_
  intro p e s m args below meth c s₁ B hml hv
  obtain ⟨hargs, hsz, hP, hT, hD0⟩ := hv
  have hx := B.exec
  have hb := B.bytes
  have hr := B.returns
  have hts := atoms_spec (ws := wsX6_ground) B.pre
  have hown : s.vm.findClass RX6 = some m.cls := findClass_of_methodNamed B.named
  have hlocks := B.notSynchronized
  subst hsz
  have hK := hT.1
  have hD := hD0.self (sz := s.heap.size)
  generalize hAe : va_A [(h0, .inr (6, [.int (nI thr), .int (nI mi), .int (nI me), .int (nI dp), .int (bI up), .int (nI dn), .ref ma, .ref mx, .ref mh, .ref mg, .ref mc, .ref mo, .ref mr, .ref mf, .long wp, .long wl, .int (nI ru), .int (nI sm), .ref mk, .ref ml]))] s.heap.size = A at hD ⊢
  have hA : ∀ q : Nat, s.heap.size ≤ q → A q := fun q h => by rw [← hAe]; exact Or.inr h
  have hS : va_S A s.heap s.heap [] := va_S.rf
  obtain ⟨H, hHe⟩ : ∃ H : Heap, H = s.heap := ⟨_, rfl⟩
  have hS : va_S A s.heap H [] := by rw [hHe]; exact va_S.rf
  rw [← hHe] at hP
  suffices K0 : W p l e (headSpec wsX6_ground ({ frames := 2, cells := 0, slots := 0, locals := 42 } : Room)).room s m args below meth c H [] 0 0 (MQ below (Ql9 D A [(h0, .inr (6, [.int (nI 1), .int (nI mi), .int (nI me), .int (nI dp), .int (bI up), .int (nI dn), .ref ma, .ref mx, .ref mh, .ref mg, .ref mc, .ref mo, .ref mr, .ref mf, .long wp, .long wl, .int (nI ru), .int (nI sm), .ref mk, .ref ml]))] (0)) args s 0 0 A) (entryFrame m args 2) by rw [hHe] at K0; exact K0
  refine W.eq (g2 := entryFrame m ([.ref h0, .int x0] : List Value).toArray 2) (by rw [hargs]) ?_
  have hl := lv_entry ([.ref h0, .int x0]) (n := 2) (Nat.le_of_ble_eq_true rfl)
  rw [lg_entry_eq]
  generalize (lg_sl ([.ref h0, .int x0]) ++ List.replicate (2 - (lg_sl ([.ref h0, .int x0])).length) Slot.unset).toArray = ls at hl ⊢
  have hl : lv_has ls 2 [(0, .ref h0), (1, .int x0)] := hl
  generalize ([] : List Loc) = locs at hS ⊢
  refine lv_aload_n hx hb dX6_ground_0 rfl (lv_at hl 0 rfl) ?_
  refine lv_iload_n hx hb dX6_ground_1 rfl (lv_at hl 1 rfl) ?_
  refine cr_i (wc := []) (w1 := []) (ws2 := [(h0, .inr (6, [.int (nI thr), .int (nI mi), .int (nI me), .int (nI dp), .int (bI up), .int (nI dn), .ref ma, .ref mx, .ref mh, .ref mg, .ref mc, .ref mo, .ref mr, .ref mf, .long wp, .long wl, .int (nI ru), .int (nI sm), .ref mk, .ref ml]))]) hP hD hS hA [] rfl rfl rfl (va_runS (As := [.int x0]) (rest := [.ref h0]) ⟨hx, hb, hml, hown, hts⟩ (c_X6_isPlace_F l D cI cJ cZ x0 (by omega) H.size) (va_cwS 1 hts gX6_ground_X6_isPlace rfl rfl rfl (by decide +kernel) ⟨Nat.le_of_ble_eq_true rfl, Nat.le_of_ble_eq_true rfl⟩) (pvS hT hP hD [] rfl rfl) rfl rfl hl.1 rfl (lv_room (Nat.le_of_ble_eq_true rfl)) dX6_ground_2 ⟨Nat.zero_le _, Nat.zero_le _⟩) (fun H locs hP hD hS => ?_)
  refine cb_eq (tgt := 12) hx hb dX6_ground_5 (by decide) (fun c_5 => ?_) (fun c_5 => absurd c_5 (by decide))
  refine lv_iconst (v := nI 1) hx hb dX6_ground_12 (by decide) ?_
  refine cr_i (wc := [(h0, .inr (6, [.int (nI thr), .int (nI mi), .int (nI me), .int (nI dp), .int (bI up), .int (nI dn), .ref ma, .ref mx, .ref mh, .ref mg, .ref mc, .ref mo, .ref mr, .ref mf, .long wp, .long wl, .int (nI ru), .int (nI sm), .ref mk, .ref ml]))]) (w1 := [(h0, .inr (6, [.int (nI 1), .int (nI mi), .int (nI me), .int (nI dp), .int (bI up), .int (nI dn), .ref ma, .ref mx, .ref mh, .ref mg, .ref mc, .ref mo, .ref mr, .ref mf, .long wp, .long wl, .int (nI ru), .int (nI sm), .ref mk, .ref ml]))]) (ws2 := [(h0, .inr (6, [.int (nI 1), .int (nI mi), .int (nI me), .int (nI dp), .int (bI up), .int (nI dn), .ref ma, .ref mx, .ref mh, .ref mg, .ref mc, .ref mo, .ref mr, .ref mf, .long wp, .long wl, .int (nI ru), .int (nI sm), .ref mk, .ref ml]))]) hP hD hS hA [0] rfl rfl rfl (va_runV (As := [.int (nI 1)]) (rest := []) ⟨hx, hb, hml, hown, hts⟩ (c_X6_goesWell_no l D cI cJ cZ h0 thr mi me dp up dn ma mx mh mg mc mo mr mf mk ml wp wl ru sm 1 (by omega) (by omega) H.size) (cwV 1 hts gX6_ground_X6_goesWell rfl rfl rfl (by decide +kernel) ⟨Nat.le_of_ble_eq_true rfl, Nat.le_of_ble_eq_true rfl⟩) (pvV hT hP hD [0] rfl rfl 0 rfl rfl) rfl rfl hl.1 rfl (lv_room (Nat.le_of_ble_eq_true rfl)) dX6_ground_13 ⟨Nat.zero_le _, Nat.zero_le _⟩) (fun H locs hP hD hS => ?_)
  refine cb_eq (tgt := 28) hx hb dX6_ground_16 (by decide) (fun c_16 => ?_) (fun c_16 => absurd c_16 (by decide))
  refine lv_lconst (v := 0) hx hb dX6_ground_28 (by decide) ?_
  exact fin_l hx hb hr hlocks hP hD hS (rfl) dX6_ground_29
set_option maxHeartbeats 4000000 in
set_option maxRecDepth 100000 in
theorem c_X6_groundAnew_b0 (l : Launch) (D : va_G) (cI cJ cZ : ClassId) (h0 : Nat) (thr : Nat) (mi : Nat) (me : Nat) (dp : Nat) (up : Bool) (dn : Nat) (ma : Nat) (mx : Nat) (mh : Nat) (mg : Nat) (mc : Nat) (mo : Nat) (mr : Nat) (mf : Nat) (mk : Nat) (ml : Nat) (wp : Int64) (wl : Int64) (ru : Nat) (sm : Nat) (x0 : Int32) (hbad : x0.toInt < 0 ∨ 20 ≤ x0.toInt) (sz : Nat) : Met l yX6_groundAnew wsX6_groundAnew ({ frames := 2, cells := 0, slots := 0, locals := 42 } : Room) (va_Pc [.ref h0, .int x0] (mPre D cI cJ cZ [(h0, .inr (6, [.int (nI thr), .int (nI mi), .int (nI me), .int (nI dp), .int (bI up), .int (nI dn), .ref ma, .ref mx, .ref mh, .ref mg, .ref mc, .ref mo, .ref mr, .ref mf, .long wp, .long wl, .int (nI ru), .int (nI sm), .ref mk, .ref ml]))] sz)) (Ql9 D (va_A [(h0, .inr (6, [.int (nI thr), .int (nI mi), .int (nI me), .int (nI dp), .int (bI up), .int (nI dn), .ref ma, .ref mx, .ref mh, .ref mg, .ref mc, .ref mo, .ref mr, .ref mf, .long wp, .long wl, .int (nI ru), .int (nI sm), .ref mk, .ref ml]))] sz) [(h0, .inr (6, [.int (nI 1), .int (nI mi), .int (nI me), .int (nI dp), .int (bI up), .int (nI dn), .ref ma, .ref mx, .ref mh, .ref mg, .ref mc, .ref mo, .ref mr, .ref mf, .long wp, .long wl, .int (nI ru), .int (nI sm), .ref mk, .ref ml]))] (0)) 0 0 (va_A [(h0, .inr (6, [.int (nI thr), .int (nI mi), .int (nI me), .int (nI dp), .int (bI up), .int (nI dn), .ref ma, .ref mx, .ref mh, .ref mg, .ref mc, .ref mo, .ref mr, .ref mf, .long wp, .long wl, .int (nI ru), .int (nI sm), .ref mk, .ref ml]))] sz) := by
  refine Met.ofW (cc := cX6_groundAnew) (maxL := 2) (ret := (some .long)) (by decide) rfl ?_
  intro p e s m args below meth c s₁ B hml hv
  obtain ⟨hargs, hsz, hP, hT, hD0⟩ := hv
  have hx := B.exec
  have hb := B.bytes
  have hr := B.returns
  have hts := atoms_spec (ws := wsX6_groundAnew) B.pre
  have hown : s.vm.findClass RX6 = some m.cls := findClass_of_methodNamed B.named
  have hlocks := B.notSynchronized
  subst hsz
  have hK := hT.1
  have hD := hD0.self (sz := s.heap.size)
  generalize hAe : va_A [(h0, .inr (6, [.int (nI thr), .int (nI mi), .int (nI me), .int (nI dp), .int (bI up), .int (nI dn), .ref ma, .ref mx, .ref mh, .ref mg, .ref mc, .ref mo, .ref mr, .ref mf, .long wp, .long wl, .int (nI ru), .int (nI sm), .ref mk, .ref ml]))] s.heap.size = A at hD ⊢
  have hA : ∀ q : Nat, s.heap.size ≤ q → A q := fun q h => by rw [← hAe]; exact Or.inr h
  have hS : va_S A s.heap s.heap [] := va_S.rf
  obtain ⟨H, hHe⟩ : ∃ H : Heap, H = s.heap := ⟨_, rfl⟩
  have hS : va_S A s.heap H [] := by rw [hHe]; exact va_S.rf
  rw [← hHe] at hP
  suffices K0 : W p l e (headSpec wsX6_groundAnew ({ frames := 2, cells := 0, slots := 0, locals := 42 } : Room)).room s m args below meth c H [] 0 0 (MQ below (Ql9 D A [(h0, .inr (6, [.int (nI 1), .int (nI mi), .int (nI me), .int (nI dp), .int (bI up), .int (nI dn), .ref ma, .ref mx, .ref mh, .ref mg, .ref mc, .ref mo, .ref mr, .ref mf, .long wp, .long wl, .int (nI ru), .int (nI sm), .ref mk, .ref ml]))] (0)) args s 0 0 A) (entryFrame m args 2) by rw [hHe] at K0; exact K0
  refine W.eq (g2 := entryFrame m ([.ref h0, .int x0] : List Value).toArray 2) (by rw [hargs]) ?_
  have hl := lv_entry ([.ref h0, .int x0]) (n := 2) (Nat.le_of_ble_eq_true rfl)
  rw [lg_entry_eq]
  generalize (lg_sl ([.ref h0, .int x0]) ++ List.replicate (2 - (lg_sl ([.ref h0, .int x0])).length) Slot.unset).toArray = ls at hl ⊢
  have hl : lv_has ls 2 [(0, .ref h0), (1, .int x0)] := hl
  generalize ([] : List Loc) = locs at hS ⊢
  refine lv_aload_n hx hb dX6_groundAnew_0 rfl (lv_at hl 0 rfl) ?_
  refine lv_iload_n hx hb dX6_groundAnew_1 rfl (lv_at hl 1 rfl) ?_
  refine cr_i (wc := []) (w1 := []) (ws2 := [(h0, .inr (6, [.int (nI thr), .int (nI mi), .int (nI me), .int (nI dp), .int (bI up), .int (nI dn), .ref ma, .ref mx, .ref mh, .ref mg, .ref mc, .ref mo, .ref mr, .ref mf, .long wp, .long wl, .int (nI ru), .int (nI sm), .ref mk, .ref ml]))]) hP hD hS hA [] rfl rfl rfl (va_runS (As := [.int x0]) (rest := [.ref h0]) ⟨hx, hb, hml, hown, hts⟩ (c_X6_isPlace_F l D cI cJ cZ x0 (by omega) H.size) (va_cwS 1 hts gX6_groundAnew_X6_isPlace rfl rfl rfl (by decide +kernel) ⟨Nat.le_of_ble_eq_true rfl, Nat.le_of_ble_eq_true rfl⟩) (pvS hT hP hD [] rfl rfl) rfl rfl hl.1 rfl (lv_room (Nat.le_of_ble_eq_true rfl)) dX6_groundAnew_2 ⟨Nat.zero_le _, Nat.zero_le _⟩) (fun H locs hP hD hS => ?_)
  refine cb_eq (tgt := 12) hx hb dX6_groundAnew_5 (by decide) (fun c_5 => ?_) (fun c_5 => absurd c_5 (by decide))
  refine lv_iconst (v := nI 1) hx hb dX6_groundAnew_12 (by decide) ?_
  refine cr_i (wc := [(h0, .inr (6, [.int (nI thr), .int (nI mi), .int (nI me), .int (nI dp), .int (bI up), .int (nI dn), .ref ma, .ref mx, .ref mh, .ref mg, .ref mc, .ref mo, .ref mr, .ref mf, .long wp, .long wl, .int (nI ru), .int (nI sm), .ref mk, .ref ml]))]) (w1 := [(h0, .inr (6, [.int (nI 1), .int (nI mi), .int (nI me), .int (nI dp), .int (bI up), .int (nI dn), .ref ma, .ref mx, .ref mh, .ref mg, .ref mc, .ref mo, .ref mr, .ref mf, .long wp, .long wl, .int (nI ru), .int (nI sm), .ref mk, .ref ml]))]) (ws2 := [(h0, .inr (6, [.int (nI 1), .int (nI mi), .int (nI me), .int (nI dp), .int (bI up), .int (nI dn), .ref ma, .ref mx, .ref mh, .ref mg, .ref mc, .ref mo, .ref mr, .ref mf, .long wp, .long wl, .int (nI ru), .int (nI sm), .ref mk, .ref ml]))]) hP hD hS hA [0] rfl rfl rfl (va_runV (As := [.int (nI 1)]) (rest := []) ⟨hx, hb, hml, hown, hts⟩ (c_X6_goesWell_no l D cI cJ cZ h0 thr mi me dp up dn ma mx mh mg mc mo mr mf mk ml wp wl ru sm 1 (by omega) (by omega) H.size) (cwV 1 hts gX6_groundAnew_X6_goesWell rfl rfl rfl (by decide +kernel) ⟨Nat.le_of_ble_eq_true rfl, Nat.le_of_ble_eq_true rfl⟩) (pvV hT hP hD [0] rfl rfl 0 rfl rfl) rfl rfl hl.1 rfl (lv_room (Nat.le_of_ble_eq_true rfl)) dX6_groundAnew_13 ⟨Nat.zero_le _, Nat.zero_le _⟩) (fun H locs hP hD hS => ?_)
  refine cb_eq (tgt := 28) hx hb dX6_groundAnew_16 (by decide) (fun c_16 => ?_) (fun c_16 => absurd c_16 (by decide))
  refine lv_lconst (v := 0) hx hb dX6_groundAnew_28 (by decide) ?_
  exact fin_l hx hb hr hlocks hP hD hS (rfl) dX6_groundAnew_29
set_option maxHeartbeats 4000000 in
set_option maxRecDepth 100000 in
theorem c_X6_water_b0 (l : Launch) (D : va_G) (cI cJ cZ : ClassId) (h0 : Nat) (thr : Nat) (mi : Nat) (me : Nat) (dp : Nat) (up : Bool) (dn : Nat) (ma : Nat) (mx : Nat) (mh : Nat) (mg : Nat) (mc : Nat) (mo : Nat) (mr : Nat) (mf : Nat) (mk : Nat) (ml : Nat) (wp : Int64) (wl : Int64) (ru : Nat) (sm : Nat) (x0 : Int32) (hbad : x0.toInt < 0 ∨ 3 < x0.toInt) (sz : Nat) : Met l yX6_water wsX6_water ({ frames := 1, cells := 0, slots := 0, locals := 22 } : Room) (va_Pc [.ref h0, .int x0] (mPre D cI cJ cZ [(h0, .inr (6, [.int (nI thr), .int (nI mi), .int (nI me), .int (nI dp), .int (bI up), .int (nI dn), .ref ma, .ref mx, .ref mh, .ref mg, .ref mc, .ref mo, .ref mr, .ref mf, .long wp, .long wl, .int (nI ru), .int (nI sm), .ref mk, .ref ml]))] sz)) (Ql9 D (va_A [(h0, .inr (6, [.int (nI thr), .int (nI mi), .int (nI me), .int (nI dp), .int (bI up), .int (nI dn), .ref ma, .ref mx, .ref mh, .ref mg, .ref mc, .ref mo, .ref mr, .ref mf, .long wp, .long wl, .int (nI ru), .int (nI sm), .ref mk, .ref ml]))] sz) [(h0, .inr (6, [.int (nI 1), .int (nI mi), .int (nI me), .int (nI dp), .int (bI up), .int (nI dn), .ref ma, .ref mx, .ref mh, .ref mg, .ref mc, .ref mo, .ref mr, .ref mf, .long wp, .long wl, .int (nI ru), .int (nI sm), .ref mk, .ref ml]))] (0)) 0 0 (va_A [(h0, .inr (6, [.int (nI thr), .int (nI mi), .int (nI me), .int (nI dp), .int (bI up), .int (nI dn), .ref ma, .ref mx, .ref mh, .ref mg, .ref mc, .ref mo, .ref mr, .ref mf, .long wp, .long wl, .int (nI ru), .int (nI sm), .ref mk, .ref ml]))] sz) := by
  refine Met.ofW (cc := cX6_water) (maxL := 6) (ret := (some .long)) (by decide) rfl ?_
  intro p e s m args below meth c s₁ B hml hv
  obtain ⟨hargs, hsz, hP, hT, hD0⟩ := hv
  have hx := B.exec
  have hb := B.bytes
  have hr := B.returns
  have hts := atoms_spec (ws := wsX6_water) B.pre
  have hown : s.vm.findClass RX6 = some m.cls := findClass_of_methodNamed B.named
  have hlocks := B.notSynchronized
  subst hsz
  have hK := hT.1
  have hD := hD0.self (sz := s.heap.size)
  generalize hAe : va_A [(h0, .inr (6, [.int (nI thr), .int (nI mi), .int (nI me), .int (nI dp), .int (bI up), .int (nI dn), .ref ma, .ref mx, .ref mh, .ref mg, .ref mc, .ref mo, .ref mr, .ref mf, .long wp, .long wl, .int (nI ru), .int (nI sm), .ref mk, .ref ml]))] s.heap.size = A at hD ⊢
  have hA : ∀ q : Nat, s.heap.size ≤ q → A q := fun q h => by rw [← hAe]; exact Or.inr h
  have hS : va_S A s.heap s.heap [] := va_S.rf
  obtain ⟨H, hHe⟩ : ∃ H : Heap, H = s.heap := ⟨_, rfl⟩
  have hS : va_S A s.heap H [] := by rw [hHe]; exact va_S.rf
  rw [← hHe] at hP
  suffices K0 : W p l e (headSpec wsX6_water ({ frames := 1, cells := 0, slots := 0, locals := 22 } : Room)).room s m args below meth c H [] 0 0 (MQ below (Ql9 D A [(h0, .inr (6, [.int (nI 1), .int (nI mi), .int (nI me), .int (nI dp), .int (bI up), .int (nI dn), .ref ma, .ref mx, .ref mh, .ref mg, .ref mc, .ref mo, .ref mr, .ref mf, .long wp, .long wl, .int (nI ru), .int (nI sm), .ref mk, .ref ml]))] (0)) args s 0 0 A) (entryFrame m args 6) by rw [hHe] at K0; exact K0
  refine W.eq (g2 := entryFrame m ([.ref h0, .int x0] : List Value).toArray 6) (by rw [hargs]) ?_
  have hl := lv_entry ([.ref h0, .int x0]) (n := 6) (Nat.le_of_ble_eq_true rfl)
  rw [lg_entry_eq]
  generalize (lg_sl ([.ref h0, .int x0]) ++ List.replicate (6 - (lg_sl ([.ref h0, .int x0])).length) Slot.unset).toArray = ls at hl ⊢
  have hl : lv_has ls 6 [(0, .ref h0), (1, .int x0)] := hl
  generalize ([] : List Loc) = locs at hS ⊢
  refine lv_aload_n hx hb dX6_water_0 rfl (lv_at hl 0 rfl) ?_
  refine lv_iload_n hx hb dX6_water_1 rfl (lv_at hl 1 rfl) ?_
  refine lv_iconst (v := nI 0) hx hb dX6_water_2 (by decide) ?_
  refine lv_iconst (v := nI 3) hx hb dX6_water_3 (by decide) ?_
  refine cr_i (wc := []) (w1 := []) (ws2 := [(h0, .inr (6, [.int (nI thr), .int (nI mi), .int (nI me), .int (nI dp), .int (bI up), .int (nI dn), .ref ma, .ref mx, .ref mh, .ref mg, .ref mc, .ref mo, .ref mr, .ref mf, .long wp, .long wl, .int (nI ru), .int (nI sm), .ref mk, .ref ml]))]) hP hD hS hA [] rfl rfl rfl (va_runS (As := [.int x0, .int (nI 0), .int (nI 3)]) (rest := [.ref h0]) ⟨hx, hb, hml, hown, hts⟩ (c_X6_in_F l D cI cJ cZ x0 0 3 (by omega) (by omega) (by omega) H.size) (va_cwS 3 hts gX6_water_X6_in rfl rfl rfl (by decide +kernel) ⟨Nat.le_of_ble_eq_true rfl, Nat.le_of_ble_eq_true rfl⟩) (pvS hT hP hD [] rfl rfl) rfl rfl hl.1 rfl (lv_room (Nat.le_of_ble_eq_true rfl)) dX6_water_4 ⟨Nat.zero_le _, Nat.zero_le _⟩) (fun H locs hP hD hS => ?_)
  refine cb_eq (tgt := 14) hx hb dX6_water_7 (by decide) (fun c_7 => ?_) (fun c_7 => absurd c_7 (by decide))
  refine lv_iconst (v := nI 1) hx hb dX6_water_14 (by decide) ?_
  refine cr_i (wc := [(h0, .inr (6, [.int (nI thr), .int (nI mi), .int (nI me), .int (nI dp), .int (bI up), .int (nI dn), .ref ma, .ref mx, .ref mh, .ref mg, .ref mc, .ref mo, .ref mr, .ref mf, .long wp, .long wl, .int (nI ru), .int (nI sm), .ref mk, .ref ml]))]) (w1 := [(h0, .inr (6, [.int (nI 1), .int (nI mi), .int (nI me), .int (nI dp), .int (bI up), .int (nI dn), .ref ma, .ref mx, .ref mh, .ref mg, .ref mc, .ref mo, .ref mr, .ref mf, .long wp, .long wl, .int (nI ru), .int (nI sm), .ref mk, .ref ml]))]) (ws2 := [(h0, .inr (6, [.int (nI 1), .int (nI mi), .int (nI me), .int (nI dp), .int (bI up), .int (nI dn), .ref ma, .ref mx, .ref mh, .ref mg, .ref mc, .ref mo, .ref mr, .ref mf, .long wp, .long wl, .int (nI ru), .int (nI sm), .ref mk, .ref ml]))]) hP hD hS hA [0] rfl rfl rfl (va_runV (As := [.int (nI 1)]) (rest := []) ⟨hx, hb, hml, hown, hts⟩ (c_X6_goesWell_no l D cI cJ cZ h0 thr mi me dp up dn ma mx mh mg mc mo mr mf mk ml wp wl ru sm 1 (by omega) (by omega) H.size) (cwV 1 hts gX6_water_X6_goesWell rfl rfl rfl (by decide +kernel) ⟨Nat.le_of_ble_eq_true rfl, Nat.le_of_ble_eq_true rfl⟩) (pvV hT hP hD [0] rfl rfl 0 rfl rfl) rfl rfl hl.1 rfl (lv_room (Nat.le_of_ble_eq_true rfl)) dX6_water_15 ⟨Nat.zero_le _, Nat.zero_le _⟩) (fun H locs hP hD hS => ?_)
  refine cb_ne (tgt := 23) hx hb dX6_water_18 (by decide) (fun c_18 => absurd c_18 (by decide)) (fun c_18 => ?_)
  refine lv_lconst (v := 0) hx hb dX6_water_21 (by decide) ?_
  exact fin_l hx hb hr hlocks hP hD hS (rfl) dX6_water_22
