/-! ===== the reference ===== -/
theorem zn_mul (a : Int) (b : Nat) : zI a * nI b = zI (a * b) := by rw [nz, zz_mul]
abbrev Qi2 (D : va_G) (A : Nat → Prop) (w1 : Nat → Nat → va_W) (r : Int32) : Array Value → State → Outcome → State → Prop := va_Qi (fun (r' : Int32) (_ : Nat × Nat) => r' = r) (fun (u : Nat × Nat) (t : State) => va_P D vwCl (w1 u.1 u.2) t.heap ∧ va_D A (w1 u.1 u.2)) A
theorem fin_i2 {p : Program} {l : Launch} {e : Env} {R : Room} {s : State} {m : MethodId} {args : Array Value} {below : List Frame} {meth : Method} {c : Code} {H : Heap} {locs : List Loc} {cells slots : Nat} {pc : Nat} {ls : Array Slot} {cc : ByteArray} {D : va_G} {A : Nat → Prop} {w1 : Nat → Nat → va_W} {r v : Int32} (hexec : p.tables.exec = Jvm.exec) (hb : c.code = cc) (hr : meth.sig.returnType = some .int) (hlocks : meth.locks = false) (pa px : Nat) (hP : va_P D vwCl (w1 pa px) H) (hD : va_D A (w1 pa px)) (hS : va_S A s.heap H locs) (he : v = r) (hdg : decode cc pc = .ok (.ireturn, 1)) : W p l e R s m args below meth c H locs cells slots (MQ below (Qi2 D A w1 r) args s cells slots A) (F0 m pc ls [.int v]) := by
  subst he
  exact W.iret hexec hb hr (fun t ht hW => ⟨⟨v, (pa, px), rfl, rfl, by rw [ht]; exact hP, hD⟩, hS.F ht⟩) hS.2.2 hdg hlocks
def wtm (mn si : Nat) : Int64 := (nI mn).toInt64 * (nI si).toInt64 * (nI si).toInt64 * (nI si).toInt64
theorem wtm_eq (mn si : Nat) : wtm mn si = wtr si mn := by
  unfold wtm wtr cu
  ac_rfl
def clr {α : Type} (z : α) (f : Nat → α) : Nat → (Nat → α) | 0 => f | k + 1 => uN (clr z f k) k z
def NXf (me : Nat) (C NX : Nat → Nat) : Nat → (Nat → Nat) | 0 => NX | n + 1 => if n / 3 % 10 < faN (n / 3 % 10) (n % 3 + 1) me then NXf me C NX n else uN (NXf me C NX n) (n - 3 * faN (n / 3 % 10) (n % 3 + 1) me) (NXf me C NX n (n - 3 * faN (n / 3 % 10) (n % 3 + 1) me) + C n)
def FAf (me : Nat) (C : Nat → Nat) (FA : Nat → Int64) : Nat → (Nat → Int64) | 0 => FA | n + 1 => if n / 3 % 10 < faN (n / 3 % 10) (n % 3 + 1) me then uN (FAf me C FA n) (n / 30) (FAf me C FA n (n / 30) + wtm (C n) (n % 3 + 1)) else FAf me C FA n
def GRm (GR F : Nat → Int64) : Nat → (Nat → Int64) | 0 => GR | k + 1 => uN (GRm GR F k) k (GRm GR F k k + F k)
def COm (UP CL : Nat → Bool) (CO F : Nat → Int64) : Nat → (Nat → Int64) | 0 => CO | k + 1 => uN (COm UP CL CO F k) k (COm UP CL CO F k k + if UP k = true then (if CL k = true then F k / 2 else F k) else 0)
def bto (up : Bool) (n : Nat) : Int := if up = true then (n : Int) + 30 else (n : Int) - 30
def NXb (up : Bool) (C NX : Nat → Nat) : Nat → (Nat → Nat) | 0 => NX | n + 1 => if 0 ≤ bto up n ∧ bto up n ≤ 599 then uN (NXb up C NX n) (bto up n).toNat (NXb up C NX n (bto up n).toNat + C n) else NXb up C NX n
def LFb (up : Bool) (C : Nat → Nat) (wl : Int64) : Nat → Int64 | 0 => wl | n + 1 => if 0 ≤ bto up n ∧ bto up n ≤ 599 then LFb up C wl n else LFb up C wl n + wtm (C n) (n % 3 + 1)
abbrev MM : Type := (Nat → Nat) × (Nat → Nat) × (Nat → Int64) × (Nat → Int64) × (Nat → Int64) × Int64
def fl9 (me : Nat) (UP CL : Nat → Bool) (v : MM) : MM := (NXf me v.1 (clr 0 v.2.1 600) 600, v.1, GRm v.2.2.1 (FAf me v.1 (clr 0 v.2.2.2.2.1 20) 600) 20, COm UP CL v.2.2.2.1 (FAf me v.1 (clr 0 v.2.2.2.2.1 20) 600) 20, FAf me v.1 (clr 0 v.2.2.2.2.1 20) 600, v.2.2.2.2.2)
def bl9 (up : Bool) (v : MM) : MM := (NXb up v.1 (clr 0 v.2.1 600) 600, v.1, v.2.2.1, v.2.2.2.1, v.2.2.2.2.1, LFb up v.1 v.2.2.2.2.2 600)
def pm9 (me dp : Nat) (up : Bool) (UP CL : Nat → Bool) (nu : Nat) (v : MM) : MM := if 0 < dp ∧ nu % dp = 0 then bl9 up (fl9 me UP CL v) else fl9 me UP CL v
def pmv (me dp : Nat) (up : Bool) (UP CL : Nat → Bool) (mi : Nat) (v : MM) : Nat → MM | 0 => v | i + 1 => pm9 me dp up UP CL (mi + i + 1) (pmv me dp up UP CL mi v i)
def blk (HI : Nat → Nat) (ev : Nat) : Nat → Bool | 0 => false | j + 1 => blk HI ev j || decide (bmN j ev < HI j)
def al9 (C : Nat → Nat) (n : Nat) : Int64 := (nI (C n)).toInt64 + 64 * (nI (C (n + 1))).toInt64 + 729 * (nI (C (n + 2))).toInt64
def em9 (C : Nat → Nat) (me ki ev : Nat) : Int64 := if 10 ≤ bmN ki ev then 0 else if phN (bmN ki ev) me = 0 then al9 C (30 * ki + 3 * bmN ki ev) / 4 else if phN (bmN ki ev) me = 1 then 3 * al9 C (30 * ki + 3 * bmN ki ev) else al9 C (30 * ki + 3 * bmN ki ev)
def scM (HI C : Nat → Nat) (me ev : Nat) (EC : Nat → Int64) (sm : Nat) : Nat → (Nat → Int64) | 0 => EC | i + 1 => uN (scM HI C me ev EC sm i) (20 * sm + i) (if blk HI ev (i + 1) = true then 0 else em9 C me i ev)
def ubk (HI : Nat → Nat) (ev : Nat) : Nat → Nat | 0 => 0 | i + 1 => ubk HI ev i + if blk HI ev (i + 1) = true then 0 else 1
theorem absL_ge {x : Int64} (h : 0 ≤ x) : absL x = x := by
  unfold absL
  split
  · rfl
  · rename_i h2
    have h3 : x = 0 := Int64.le_antisymm (Int64.not_lt.mp h2) h
    rw [h3]
    rfl
theorem absL_lt {x : Int64} (h : x < 0) : absL x = -x := by
  unfold absL
  rw [if_neg (Int64.not_lt.mpr (Int64.le_of_lt h))]
theorem ahd_in {EC : Nat → Int64} {sm : Nat} {z : Int} (h : 0 ≤ z ∧ z < 20) : ahd EC sm z = EC (20 * (sm - 2) + z.toNat) := if_pos h
theorem ahd_out {EC : Nat → Int64} {sm : Nat} {z : Int} (h : ¬ (0 ≤ z ∧ z < 20)) : ahd EC sm z = 0 := if_neg h
theorem dfS_in {EC : Nat → Int64} {sm i : Nat} {st : Int} {w : Int64} (h : ahd EC sm ((i : Int) - st) = w) : dfS EC sm st (i + 1) = dfS EC sm st i + absL (EC (20 * (sm - 1) + i) - w) := by
  show dfS EC sm st i + absL (EC (20 * (sm - 1) + i) - ahd EC sm ((i : Int) - st)) = _
  rw [h]
set_option maxHeartbeats 4000000 in
set_option maxRecDepth 100000 in
theorem c_X6_in_T (l : Launch) (D : va_G) (cI cJ cZ : ClassId) (xx : Nat) (xlo : Nat) (xhi : Nat) (hx1 : xlo ≤ xx) (hx2 : xx ≤ xhi) (hx3 : xhi < 100000) (sz : Nat) : Met l yX6_in wsX6_in ({ frames := 0, cells := 0, slots := 0, locals := 0 } : Room) (va_Pc [.int (nI xx), .int (nI xlo), .int (nI xhi)] (mPre D cI cJ cZ [] sz)) (Qi9 D (va_A [] sz) [] (bI true)) 0 0 (va_A [] sz) := by
  refine Met.ofW (cc := cX6_in) (maxL := 3) (ret := (some .boolean)) (by decide) rfl ?_
  intro p e s m args below meth c s₁ B hml hv
  obtain ⟨hargs, hsz, hP, hT, hD0⟩ := hv
  have hx := B.exec
  have hb := B.bytes
  have hr := B.returns
  have hts := atoms_spec (ws := wsX6_in) B.pre
  have hown : s.vm.findClass RX6 = some m.cls := findClass_of_methodNamed B.named
  have hlocks := B.notSynchronized
  subst hsz
  have hK := hT.1
  have hD := hD0.self (sz := s.heap.size)
  generalize hAe : va_A [] s.heap.size = A at hD ⊢
  have hA : ∀ q : Nat, s.heap.size ≤ q → A q := fun q h => by rw [← hAe]; exact Or.inr h
  have hS : va_S A s.heap s.heap [] := va_S.rf
  obtain ⟨H, hHe⟩ : ∃ H : Heap, H = s.heap := ⟨_, rfl⟩
  have hS : va_S A s.heap H [] := by rw [hHe]; exact va_S.rf
  rw [← hHe] at hP
  suffices K0 : W p l e (headSpec wsX6_in ({ frames := 0, cells := 0, slots := 0, locals := 0 } : Room)).room s m args below meth c H [] 0 0 (MQ below (Qi9 D A [] (bI true)) args s 0 0 A) (entryFrame m args 3) by rw [hHe] at K0; exact K0
  refine W.eq (g2 := entryFrame m ([.int (nI xx), .int (nI xlo), .int (nI xhi)] : List Value).toArray 3) (by rw [hargs]) ?_
  have hl := lv_entry ([.int (nI xx), .int (nI xlo), .int (nI xhi)]) (n := 3) (Nat.le_of_ble_eq_true rfl)
  rw [lg_entry_eq]
  generalize (lg_sl ([.int (nI xx), .int (nI xlo), .int (nI xhi)]) ++ List.replicate (3 - (lg_sl ([.int (nI xx), .int (nI xlo), .int (nI xhi)])).length) Slot.unset).toArray = ls at hl ⊢
  have hl : lv_has ls 3 [(0, .int (nI xx)), (1, .int (nI xlo)), (2, .int (nI xhi))] := hl
  generalize ([] : List Loc) = locs at hS ⊢
  refine lv_iload_n hx hb dX6_in_0 rfl (lv_at hl 0 rfl) ?_
  refine lv_iload_n hx hb dX6_in_1 rfl (lv_at hl 1 rfl) ?_
  refine ci_lt (tgt := 14) hx hb dX6_in_2 (by decide) (nT (by omega)) (nT (by omega)) (fun c_2 => by omega) (fun c_2 => ?_)
  refine lv_iload_n hx hb dX6_in_5 rfl (lv_at hl 0 rfl) ?_
  refine lv_iload_n hx hb dX6_in_6 rfl (lv_at hl 2 rfl) ?_
  refine ci_gt (tgt := 14) hx hb dX6_in_7 (by decide) (nT (by omega)) (nT (by omega)) (fun c_7 => by omega) (fun c_7 => ?_)
  refine lv_iconst (v := nI 1) hx hb dX6_in_10 (by decide) ?_
  refine lv_goto (tgt := 15) hx hb dX6_in_11 (by decide) ?_
  exact fin_z hx hb hr hlocks hP hD hS (rfl) dX6_in_15
set_option maxHeartbeats 4000000 in
set_option maxRecDepth 100000 in
theorem c_X6_in_F (l : Launch) (D : va_G) (cI cJ cZ : ClassId) (xr : Int32) (xlo : Nat) (xhi : Nat) (hbad : xr.toInt < xlo ∨ xhi < xr.toInt) (hx2 : xlo < 100000) (hx3 : xhi < 100000) (sz : Nat) : Met l yX6_in wsX6_in ({ frames := 0, cells := 0, slots := 0, locals := 0 } : Room) (va_Pc [.int xr, .int (nI xlo), .int (nI xhi)] (mPre D cI cJ cZ [] sz)) (Qi9 D (va_A [] sz) [] (bI false)) 0 0 (va_A [] sz) := by
  refine Met.ofW (cc := cX6_in) (maxL := 3) (ret := (some .boolean)) (by decide) rfl ?_
  intro p e s m args below meth c s₁ B hml hv
  obtain ⟨hargs, hsz, hP, hT, hD0⟩ := hv
  have hx := B.exec
  have hb := B.bytes
  have hr := B.returns
  have hts := atoms_spec (ws := wsX6_in) B.pre
  have hown : s.vm.findClass RX6 = some m.cls := findClass_of_methodNamed B.named
  have hlocks := B.notSynchronized
  subst hsz
  have hK := hT.1
  have hD := hD0.self (sz := s.heap.size)
  generalize hAe : va_A [] s.heap.size = A at hD ⊢
  have hA : ∀ q : Nat, s.heap.size ≤ q → A q := fun q h => by rw [← hAe]; exact Or.inr h
  have hS : va_S A s.heap s.heap [] := va_S.rf
  obtain ⟨H, hHe⟩ : ∃ H : Heap, H = s.heap := ⟨_, rfl⟩
  have hS : va_S A s.heap H [] := by rw [hHe]; exact va_S.rf
  rw [← hHe] at hP
  suffices K0 : W p l e (headSpec wsX6_in ({ frames := 0, cells := 0, slots := 0, locals := 0 } : Room)).room s m args below meth c H [] 0 0 (MQ below (Qi9 D A [] (bI false)) args s 0 0 A) (entryFrame m args 3) by rw [hHe] at K0; exact K0
  refine W.eq (g2 := entryFrame m ([.int xr, .int (nI xlo), .int (nI xhi)] : List Value).toArray 3) (by rw [hargs]) ?_
  have hl := lv_entry ([.int xr, .int (nI xlo), .int (nI xhi)]) (n := 3) (Nat.le_of_ble_eq_true rfl)
  rw [lg_entry_eq]
  generalize (lg_sl ([.int xr, .int (nI xlo), .int (nI xhi)]) ++ List.replicate (3 - (lg_sl ([.int xr, .int (nI xlo), .int (nI xhi)])).length) Slot.unset).toArray = ls at hl ⊢
  have hl : lv_has ls 3 [(0, .int xr), (1, .int (nI xlo)), (2, .int (nI xhi))] := hl
  generalize ([] : List Loc) = locs at hS ⊢
  refine lv_iload_n hx hb dX6_in_0 rfl (lv_at hl 0 rfl) ?_
  refine lv_iload_n hx hb dX6_in_1 rfl (lv_at hl 1 rfl) ?_
  refine ci_lt (tgt := 14) hx hb dX6_in_2 (by decide) rfl (nT (by omega)) (fun c_2 => ?_) (fun c_2 => ?_)
  · refine lv_iconst (v := nI 0) hx hb dX6_in_14 (by decide) ?_
    exact fin_z hx hb hr hlocks hP hD hS (rfl) dX6_in_15
  · refine lv_iload_n hx hb dX6_in_5 rfl (lv_at hl 0 rfl) ?_
    refine lv_iload_n hx hb dX6_in_6 rfl (lv_at hl 2 rfl) ?_
    refine ci_gt (tgt := 14) hx hb dX6_in_7 (by decide) rfl (nT (by omega)) (fun c_7 => ?_) (fun c_7 => by omega)
    refine lv_iconst (v := nI 0) hx hb dX6_in_14 (by decide) ?_
    exact fin_z hx hb hr hlocks hP hD hS (rfl) dX6_in_15
set_option maxHeartbeats 4000000 in
set_option maxRecDepth 100000 in
theorem c_X6_in_g (l : Launch) (D : va_G) (cI cJ cZ : ClassId) (xr : Int32) (xlo : Nat) (xhi : Nat) (hx2 : xlo < 100000) (hx3 : xhi < 100000) (sz : Nat) : Met l yX6_in wsX6_in ({ frames := 0, cells := 0, slots := 0, locals := 0 } : Room) (va_Pc [.int xr, .int (nI xlo), .int (nI xhi)] (mPre D cI cJ cZ [] sz)) (Qi9 D (va_A [] sz) [] (bI (decide ((xlo : Int) ≤ xr.toInt ∧ xr.toInt ≤ xhi)))) 0 0 (va_A [] sz) := by
  refine Met.ofW (cc := cX6_in) (maxL := 3) (ret := (some .boolean)) (by decide) rfl ?_
  intro p e s m args below meth c s₁ B hml hv
  obtain ⟨hargs, hsz, hP, hT, hD0⟩ := hv
  have hx := B.exec
  have hb := B.bytes
  have hr := B.returns
  have hts := atoms_spec (ws := wsX6_in) B.pre
  have hown : s.vm.findClass RX6 = some m.cls := findClass_of_methodNamed B.named
  have hlocks := B.notSynchronized
  subst hsz
  have hK := hT.1
  have hD := hD0.self (sz := s.heap.size)
  generalize hAe : va_A [] s.heap.size = A at hD ⊢
  have hA : ∀ q : Nat, s.heap.size ≤ q → A q := fun q h => by rw [← hAe]; exact Or.inr h
  have hS : va_S A s.heap s.heap [] := va_S.rf
  obtain ⟨H, hHe⟩ : ∃ H : Heap, H = s.heap := ⟨_, rfl⟩
  have hS : va_S A s.heap H [] := by rw [hHe]; exact va_S.rf
  rw [← hHe] at hP
  suffices K0 : W p l e (headSpec wsX6_in ({ frames := 0, cells := 0, slots := 0, locals := 0 } : Room)).room s m args below meth c H [] 0 0 (MQ below (Qi9 D A [] (bI (decide ((xlo : Int) ≤ xr.toInt ∧ xr.toInt ≤ xhi)))) args s 0 0 A) (entryFrame m args 3) by rw [hHe] at K0; exact K0
  refine W.eq (g2 := entryFrame m ([.int xr, .int (nI xlo), .int (nI xhi)] : List Value).toArray 3) (by rw [hargs]) ?_
  have hl := lv_entry ([.int xr, .int (nI xlo), .int (nI xhi)]) (n := 3) (Nat.le_of_ble_eq_true rfl)
  rw [lg_entry_eq]
  generalize (lg_sl ([.int xr, .int (nI xlo), .int (nI xhi)]) ++ List.replicate (3 - (lg_sl ([.int xr, .int (nI xlo), .int (nI xhi)])).length) Slot.unset).toArray = ls at hl ⊢
  have hl : lv_has ls 3 [(0, .int xr), (1, .int (nI xlo)), (2, .int (nI xhi))] := hl
  generalize ([] : List Loc) = locs at hS ⊢
  refine lv_iload_n hx hb dX6_in_0 rfl (lv_at hl 0 rfl) ?_
  refine lv_iload_n hx hb dX6_in_1 rfl (lv_at hl 1 rfl) ?_
  refine ci_lt (tgt := 14) hx hb dX6_in_2 (by decide) rfl (nT (by omega)) (fun c_2 => ?_) (fun c_2 => ?_)
  · refine lv_iconst (v := nI 0) hx hb dX6_in_14 (by decide) ?_
    exact fin_z hx hb hr hlocks hP hD hS (by first | (rw [decide_eq_true (by omega)]; rfl) | (rw [decide_eq_false (by omega)]; rfl)) dX6_in_15
  · refine lv_iload_n hx hb dX6_in_5 rfl (lv_at hl 0 rfl) ?_
    refine lv_iload_n hx hb dX6_in_6 rfl (lv_at hl 2 rfl) ?_
    refine ci_gt (tgt := 14) hx hb dX6_in_7 (by decide) rfl (nT (by omega)) (fun c_7 => ?_) (fun c_7 => ?_)
    · refine lv_iconst (v := nI 0) hx hb dX6_in_14 (by decide) ?_
      exact fin_z hx hb hr hlocks hP hD hS (by first | (rw [decide_eq_true (by omega)]; rfl) | (rw [decide_eq_false (by omega)]; rfl)) dX6_in_15
    · refine lv_iconst (v := nI 1) hx hb dX6_in_10 (by decide) ?_
      refine lv_goto (tgt := 15) hx hb dX6_in_11 (by decide) ?_
      exact fin_z hx hb hr hlocks hP hD hS (by first | (rw [decide_eq_true (by omega)]; rfl) | (rw [decide_eq_false (by omega)]; rfl)) dX6_in_15
set_option maxHeartbeats 4000000 in
set_option maxRecDepth 100000 in
theorem c_X6_isPlace_T (l : Launch) (D : va_G) (cI cJ cZ : ClassId) (xx : Nat) (hx2 : xx < 20) (sz : Nat) : Met l yX6_isPlace wsX6_isPlace ({ frames := 1, cells := 0, slots := 0, locals := 22 } : Room) (va_Pc [.int (nI xx)] (mPre D cI cJ cZ [] sz)) (Qi9 D (va_A [] sz) [] (bI true)) 0 0 (va_A [] sz) := by
  refine Met.ofW (cc := cX6_isPlace) (maxL := 1) (ret := (some .boolean)) (by decide) rfl ?_
  intro p e s m args below meth c s₁ B hml hv
  obtain ⟨hargs, hsz, hP, hT, hD0⟩ := hv
  have hx := B.exec
  have hb := B.bytes
  have hr := B.returns
  have hts := atoms_spec (ws := wsX6_isPlace) B.pre
  have hown : s.vm.findClass RX6 = some m.cls := findClass_of_methodNamed B.named
  have hlocks := B.notSynchronized
  subst hsz
  have hK := hT.1
  have hD := hD0.self (sz := s.heap.size)
  generalize hAe : va_A [] s.heap.size = A at hD ⊢
  have hA : ∀ q : Nat, s.heap.size ≤ q → A q := fun q h => by rw [← hAe]; exact Or.inr h
  have hS : va_S A s.heap s.heap [] := va_S.rf
  obtain ⟨H, hHe⟩ : ∃ H : Heap, H = s.heap := ⟨_, rfl⟩
  have hS : va_S A s.heap H [] := by rw [hHe]; exact va_S.rf
  rw [← hHe] at hP
  suffices K0 : W p l e (headSpec wsX6_isPlace ({ frames := 1, cells := 0, slots := 0, locals := 22 } : Room)).room s m args below meth c H [] 0 0 (MQ below (Qi9 D A [] (bI true)) args s 0 0 A) (entryFrame m args 1) by rw [hHe] at K0; exact K0
  refine W.eq (g2 := entryFrame m ([.int (nI xx)] : List Value).toArray 1) (by rw [hargs]) ?_
  have hl := lv_entry ([.int (nI xx)]) (n := 1) (Nat.le_of_ble_eq_true rfl)
  rw [lg_entry_eq]
  generalize (lg_sl ([.int (nI xx)]) ++ List.replicate (1 - (lg_sl ([.int (nI xx)])).length) Slot.unset).toArray = ls at hl ⊢
  have hl : lv_has ls 1 [(0, .int (nI xx))] := hl
  generalize ([] : List Loc) = locs at hS ⊢
  refine lv_iload_n hx hb dX6_isPlace_0 rfl (lv_at hl 0 rfl) ?_
  refine lv_iconst (v := nI 0) hx hb dX6_isPlace_1 (by decide) ?_
  refine lv_bipush (v := nI 19) hx hb dX6_isPlace_2 (by decide) ?_
  refine cr_i (wc := []) (w1 := []) (ws2 := []) hP hD hS hA [] rfl rfl rfl (va_runS (As := [.int (nI xx), .int (nI 0), .int (nI 19)]) (rest := []) ⟨hx, hb, hml, hown, hts⟩ (c_X6_in_T l D cI cJ cZ xx 0 19 (by omega) (by omega) (by omega) H.size) (va_cwS 3 hts gX6_isPlace_X6_in rfl rfl rfl (by decide +kernel) ⟨Nat.le_of_ble_eq_true rfl, Nat.le_of_ble_eq_true rfl⟩) (pvS hT hP hD [] rfl rfl) rfl rfl hl.1 rfl (lv_room (Nat.le_of_ble_eq_true rfl)) dX6_isPlace_4 ⟨Nat.zero_le _, Nat.zero_le _⟩) (fun H locs hP hD hS => ?_)
  exact fin_z hx hb hr hlocks hP hD hS (rfl) dX6_isPlace_7
set_option maxHeartbeats 4000000 in
set_option maxRecDepth 100000 in
theorem c_X6_isPlace_F (l : Launch) (D : va_G) (cI cJ cZ : ClassId) (xr : Int32) (hbad : xr.toInt < 0 ∨ 20 ≤ xr.toInt) (sz : Nat) : Met l yX6_isPlace wsX6_isPlace ({ frames := 1, cells := 0, slots := 0, locals := 22 } : Room) (va_Pc [.int xr] (mPre D cI cJ cZ [] sz)) (Qi9 D (va_A [] sz) [] (bI false)) 0 0 (va_A [] sz) := by
  refine Met.ofW (cc := cX6_isPlace) (maxL := 1) (ret := (some .boolean)) (by decide) rfl ?_
  intro p e s m args below meth c s₁ B hml hv
  obtain ⟨hargs, hsz, hP, hT, hD0⟩ := hv
  have hx := B.exec
  have hb := B.bytes
  have hr := B.returns
  have hts := atoms_spec (ws := wsX6_isPlace) B.pre
  have hown : s.vm.findClass RX6 = some m.cls := findClass_of_methodNamed B.named
  have hlocks := B.notSynchronized
  subst hsz
  have hK := hT.1
  have hD := hD0.self (sz := s.heap.size)
  generalize hAe : va_A [] s.heap.size = A at hD ⊢
  have hA : ∀ q : Nat, s.heap.size ≤ q → A q := fun q h => by rw [← hAe]; exact Or.inr h
  have hS : va_S A s.heap s.heap [] := va_S.rf
  obtain ⟨H, hHe⟩ : ∃ H : Heap, H = s.heap := ⟨_, rfl⟩
  have hS : va_S A s.heap H [] := by rw [hHe]; exact va_S.rf
  rw [← hHe] at hP
  suffices K0 : W p l e (headSpec wsX6_isPlace ({ frames := 1, cells := 0, slots := 0, locals := 22 } : Room)).room s m args below meth c H [] 0 0 (MQ below (Qi9 D A [] (bI false)) args s 0 0 A) (entryFrame m args 1) by rw [hHe] at K0; exact K0
  refine W.eq (g2 := entryFrame m ([.int xr] : List Value).toArray 1) (by rw [hargs]) ?_
  have hl := lv_entry ([.int xr]) (n := 1) (Nat.le_of_ble_eq_true rfl)
  rw [lg_entry_eq]
  generalize (lg_sl ([.int xr]) ++ List.replicate (1 - (lg_sl ([.int xr])).length) Slot.unset).toArray = ls at hl ⊢
  have hl : lv_has ls 1 [(0, .int xr)] := hl
  generalize ([] : List Loc) = locs at hS ⊢
  refine lv_iload_n hx hb dX6_isPlace_0 rfl (lv_at hl 0 rfl) ?_
  refine lv_iconst (v := nI 0) hx hb dX6_isPlace_1 (by decide) ?_
  refine lv_bipush (v := nI 19) hx hb dX6_isPlace_2 (by decide) ?_
  refine cr_i (wc := []) (w1 := []) (ws2 := []) hP hD hS hA [] rfl rfl rfl (va_runS (As := [.int xr, .int (nI 0), .int (nI 19)]) (rest := []) ⟨hx, hb, hml, hown, hts⟩ (c_X6_in_F l D cI cJ cZ xr 0 19 (by omega) (by omega) (by omega) H.size) (va_cwS 3 hts gX6_isPlace_X6_in rfl rfl rfl (by decide +kernel) ⟨Nat.le_of_ble_eq_true rfl, Nat.le_of_ble_eq_true rfl⟩) (pvS hT hP hD [] rfl rfl) rfl rfl hl.1 rfl (lv_room (Nat.le_of_ble_eq_true rfl)) dX6_isPlace_4 ⟨Nat.zero_le _, Nat.zero_le _⟩) (fun H locs hP hD hS => ?_)
  exact fin_z hx hb hr hlocks hP hD hS (rfl) dX6_isPlace_7
set_option maxHeartbeats 4000000 in
set_option maxRecDepth 100000 in
theorem c_X6_isLayer_T (l : Launch) (D : va_G) (cI cJ cZ : ClassId) (xx : Nat) (hx2 : xx < 10) (sz : Nat) : Met l yX6_isLayer wsX6_isLayer ({ frames := 1, cells := 0, slots := 0, locals := 22 } : Room) (va_Pc [.int (nI xx)] (mPre D cI cJ cZ [] sz)) (Qi9 D (va_A [] sz) [] (bI true)) 0 0 (va_A [] sz) := by
  refine Met.ofW (cc := cX6_isLayer) (maxL := 1) (ret := (some .boolean)) (by decide) rfl ?_
  intro p e s m args below meth c s₁ B hml hv
  obtain ⟨hargs, hsz, hP, hT, hD0⟩ := hv
  have hx := B.exec
  have hb := B.bytes
  have hr := B.returns
  have hts := atoms_spec (ws := wsX6_isLayer) B.pre
  have hown : s.vm.findClass RX6 = some m.cls := findClass_of_methodNamed B.named
  have hlocks := B.notSynchronized
  subst hsz
  have hK := hT.1
  have hD := hD0.self (sz := s.heap.size)
  generalize hAe : va_A [] s.heap.size = A at hD ⊢
  have hA : ∀ q : Nat, s.heap.size ≤ q → A q := fun q h => by rw [← hAe]; exact Or.inr h
  have hS : va_S A s.heap s.heap [] := va_S.rf
  obtain ⟨H, hHe⟩ : ∃ H : Heap, H = s.heap := ⟨_, rfl⟩
  have hS : va_S A s.heap H [] := by rw [hHe]; exact va_S.rf
  rw [← hHe] at hP
  suffices K0 : W p l e (headSpec wsX6_isLayer ({ frames := 1, cells := 0, slots := 0, locals := 22 } : Room)).room s m args below meth c H [] 0 0 (MQ below (Qi9 D A [] (bI true)) args s 0 0 A) (entryFrame m args 1) by rw [hHe] at K0; exact K0
  refine W.eq (g2 := entryFrame m ([.int (nI xx)] : List Value).toArray 1) (by rw [hargs]) ?_
  have hl := lv_entry ([.int (nI xx)]) (n := 1) (Nat.le_of_ble_eq_true rfl)
  rw [lg_entry_eq]
  generalize (lg_sl ([.int (nI xx)]) ++ List.replicate (1 - (lg_sl ([.int (nI xx)])).length) Slot.unset).toArray = ls at hl ⊢
  have hl : lv_has ls 1 [(0, .int (nI xx))] := hl
  generalize ([] : List Loc) = locs at hS ⊢
  refine lv_iload_n hx hb dX6_isLayer_0 rfl (lv_at hl 0 rfl) ?_
  refine lv_iconst (v := nI 0) hx hb dX6_isLayer_1 (by decide) ?_
  refine lv_bipush (v := nI 9) hx hb dX6_isLayer_2 (by decide) ?_
  refine cr_i (wc := []) (w1 := []) (ws2 := []) hP hD hS hA [] rfl rfl rfl (va_runS (As := [.int (nI xx), .int (nI 0), .int (nI 9)]) (rest := []) ⟨hx, hb, hml, hown, hts⟩ (c_X6_in_T l D cI cJ cZ xx 0 9 (by omega) (by omega) (by omega) H.size) (va_cwS 3 hts gX6_isLayer_X6_in rfl rfl rfl (by decide +kernel) ⟨Nat.le_of_ble_eq_true rfl, Nat.le_of_ble_eq_true rfl⟩) (pvS hT hP hD [] rfl rfl) rfl rfl hl.1 rfl (lv_room (Nat.le_of_ble_eq_true rfl)) dX6_isLayer_4 ⟨Nat.zero_le _, Nat.zero_le _⟩) (fun H locs hP hD hS => ?_)
  exact fin_z hx hb hr hlocks hP hD hS (rfl) dX6_isLayer_7
set_option maxHeartbeats 4000000 in
set_option maxRecDepth 100000 in
theorem c_X6_isLayer_F (l : Launch) (D : va_G) (cI cJ cZ : ClassId) (xr : Int32) (hbad : xr.toInt < 0 ∨ 10 ≤ xr.toInt) (sz : Nat) : Met l yX6_isLayer wsX6_isLayer ({ frames := 1, cells := 0, slots := 0, locals := 22 } : Room) (va_Pc [.int xr] (mPre D cI cJ cZ [] sz)) (Qi9 D (va_A [] sz) [] (bI false)) 0 0 (va_A [] sz) := by
  refine Met.ofW (cc := cX6_isLayer) (maxL := 1) (ret := (some .boolean)) (by decide) rfl ?_
  intro p e s m args below meth c s₁ B hml hv
  obtain ⟨hargs, hsz, hP, hT, hD0⟩ := hv
  have hx := B.exec
  have hb := B.bytes
  have hr := B.returns
  have hts := atoms_spec (ws := wsX6_isLayer) B.pre
  have hown : s.vm.findClass RX6 = some m.cls := findClass_of_methodNamed B.named
  have hlocks := B.notSynchronized
  subst hsz
  have hK := hT.1
  have hD := hD0.self (sz := s.heap.size)
  generalize hAe : va_A [] s.heap.size = A at hD ⊢
  have hA : ∀ q : Nat, s.heap.size ≤ q → A q := fun q h => by rw [← hAe]; exact Or.inr h
  have hS : va_S A s.heap s.heap [] := va_S.rf
  obtain ⟨H, hHe⟩ : ∃ H : Heap, H = s.heap := ⟨_, rfl⟩
  have hS : va_S A s.heap H [] := by rw [hHe]; exact va_S.rf
  rw [← hHe] at hP
  suffices K0 : W p l e (headSpec wsX6_isLayer ({ frames := 1, cells := 0, slots := 0, locals := 22 } : Room)).room s m args below meth c H [] 0 0 (MQ below (Qi9 D A [] (bI false)) args s 0 0 A) (entryFrame m args 1) by rw [hHe] at K0; exact K0
  refine W.eq (g2 := entryFrame m ([.int xr] : List Value).toArray 1) (by rw [hargs]) ?_
  have hl := lv_entry ([.int xr]) (n := 1) (Nat.le_of_ble_eq_true rfl)
  rw [lg_entry_eq]
  generalize (lg_sl ([.int xr]) ++ List.replicate (1 - (lg_sl ([.int xr])).length) Slot.unset).toArray = ls at hl ⊢
  have hl : lv_has ls 1 [(0, .int xr)] := hl
  generalize ([] : List Loc) = locs at hS ⊢
  refine lv_iload_n hx hb dX6_isLayer_0 rfl (lv_at hl 0 rfl) ?_
  refine lv_iconst (v := nI 0) hx hb dX6_isLayer_1 (by decide) ?_
  refine lv_bipush (v := nI 9) hx hb dX6_isLayer_2 (by decide) ?_
  refine cr_i (wc := []) (w1 := []) (ws2 := []) hP hD hS hA [] rfl rfl rfl (va_runS (As := [.int xr, .int (nI 0), .int (nI 9)]) (rest := []) ⟨hx, hb, hml, hown, hts⟩ (c_X6_in_F l D cI cJ cZ xr 0 9 (by omega) (by omega) (by omega) H.size) (va_cwS 3 hts gX6_isLayer_X6_in rfl rfl rfl (by decide +kernel) ⟨Nat.le_of_ble_eq_true rfl, Nat.le_of_ble_eq_true rfl⟩) (pvS hT hP hD [] rfl rfl) rfl rfl hl.1 rfl (lv_room (Nat.le_of_ble_eq_true rfl)) dX6_isLayer_4 ⟨Nat.zero_le _, Nat.zero_le _⟩) (fun H locs hP hD hS => ?_)
  exact fin_z hx hb hr hlocks hP hD hS (rfl) dX6_isLayer_7
set_option maxHeartbeats 4000000 in
set_option maxRecDepth 100000 in
theorem c_X6_isElevation_T (l : Launch) (D : va_G) (cI cJ cZ : ClassId) (xx : Nat) (hx2 : xx < 4) (sz : Nat) : Met l yX6_isElevation wsX6_isElevation ({ frames := 1, cells := 0, slots := 0, locals := 22 } : Room) (va_Pc [.int (nI xx)] (mPre D cI cJ cZ [] sz)) (Qi9 D (va_A [] sz) [] (bI true)) 0 0 (va_A [] sz) := by
  refine Met.ofW (cc := cX6_isElevation) (maxL := 1) (ret := (some .boolean)) (by decide) rfl ?_
  intro p e s m args below meth c s₁ B hml hv
  obtain ⟨hargs, hsz, hP, hT, hD0⟩ := hv
  have hx := B.exec
  have hb := B.bytes
  have hr := B.returns
  have hts := atoms_spec (ws := wsX6_isElevation) B.pre
  have hown : s.vm.findClass RX6 = some m.cls := findClass_of_methodNamed B.named
  have hlocks := B.notSynchronized
  subst hsz
  have hK := hT.1
  have hD := hD0.self (sz := s.heap.size)
  generalize hAe : va_A [] s.heap.size = A at hD ⊢
  have hA : ∀ q : Nat, s.heap.size ≤ q → A q := fun q h => by rw [← hAe]; exact Or.inr h
  have hS : va_S A s.heap s.heap [] := va_S.rf
  obtain ⟨H, hHe⟩ : ∃ H : Heap, H = s.heap := ⟨_, rfl⟩
  have hS : va_S A s.heap H [] := by rw [hHe]; exact va_S.rf
  rw [← hHe] at hP
  suffices K0 : W p l e (headSpec wsX6_isElevation ({ frames := 1, cells := 0, slots := 0, locals := 22 } : Room)).room s m args below meth c H [] 0 0 (MQ below (Qi9 D A [] (bI true)) args s 0 0 A) (entryFrame m args 1) by rw [hHe] at K0; exact K0
  refine W.eq (g2 := entryFrame m ([.int (nI xx)] : List Value).toArray 1) (by rw [hargs]) ?_
  have hl := lv_entry ([.int (nI xx)]) (n := 1) (Nat.le_of_ble_eq_true rfl)
  rw [lg_entry_eq]
  generalize (lg_sl ([.int (nI xx)]) ++ List.replicate (1 - (lg_sl ([.int (nI xx)])).length) Slot.unset).toArray = ls at hl ⊢
  have hl : lv_has ls 1 [(0, .int (nI xx))] := hl
  generalize ([] : List Loc) = locs at hS ⊢
  refine lv_iload_n hx hb dX6_isElevation_0 rfl (lv_at hl 0 rfl) ?_
  refine lv_iconst (v := nI 0) hx hb dX6_isElevation_1 (by decide) ?_
  refine lv_iconst (v := nI 3) hx hb dX6_isElevation_2 (by decide) ?_
  refine cr_i (wc := []) (w1 := []) (ws2 := []) hP hD hS hA [] rfl rfl rfl (va_runS (As := [.int (nI xx), .int (nI 0), .int (nI 3)]) (rest := []) ⟨hx, hb, hml, hown, hts⟩ (c_X6_in_T l D cI cJ cZ xx 0 3 (by omega) (by omega) (by omega) H.size) (va_cwS 3 hts gX6_isElevation_X6_in rfl rfl rfl (by decide +kernel) ⟨Nat.le_of_ble_eq_true rfl, Nat.le_of_ble_eq_true rfl⟩) (pvS hT hP hD [] rfl rfl) rfl rfl hl.1 rfl (lv_room (Nat.le_of_ble_eq_true rfl)) dX6_isElevation_3 ⟨Nat.zero_le _, Nat.zero_le _⟩) (fun H locs hP hD hS => ?_)
  exact fin_z hx hb hr hlocks hP hD hS (rfl) dX6_isElevation_6
set_option maxHeartbeats 4000000 in
set_option maxRecDepth 100000 in
theorem c_X6_isElevation_F (l : Launch) (D : va_G) (cI cJ cZ : ClassId) (xr : Int32) (hbad : xr.toInt < 0 ∨ 4 ≤ xr.toInt) (sz : Nat) : Met l yX6_isElevation wsX6_isElevation ({ frames := 1, cells := 0, slots := 0, locals := 22 } : Room) (va_Pc [.int xr] (mPre D cI cJ cZ [] sz)) (Qi9 D (va_A [] sz) [] (bI false)) 0 0 (va_A [] sz) := by
  refine Met.ofW (cc := cX6_isElevation) (maxL := 1) (ret := (some .boolean)) (by decide) rfl ?_
  intro p e s m args below meth c s₁ B hml hv
  obtain ⟨hargs, hsz, hP, hT, hD0⟩ := hv
  have hx := B.exec
  have hb := B.bytes
  have hr := B.returns
  have hts := atoms_spec (ws := wsX6_isElevation) B.pre
  have hown : s.vm.findClass RX6 = some m.cls := findClass_of_methodNamed B.named
  have hlocks := B.notSynchronized
  subst hsz
  have hK := hT.1
  have hD := hD0.self (sz := s.heap.size)
  generalize hAe : va_A [] s.heap.size = A at hD ⊢
  have hA : ∀ q : Nat, s.heap.size ≤ q → A q := fun q h => by rw [← hAe]; exact Or.inr h
  have hS : va_S A s.heap s.heap [] := va_S.rf
  obtain ⟨H, hHe⟩ : ∃ H : Heap, H = s.heap := ⟨_, rfl⟩
  have hS : va_S A s.heap H [] := by rw [hHe]; exact va_S.rf
  rw [← hHe] at hP
  suffices K0 : W p l e (headSpec wsX6_isElevation ({ frames := 1, cells := 0, slots := 0, locals := 22 } : Room)).room s m args below meth c H [] 0 0 (MQ below (Qi9 D A [] (bI false)) args s 0 0 A) (entryFrame m args 1) by rw [hHe] at K0; exact K0
  refine W.eq (g2 := entryFrame m ([.int xr] : List Value).toArray 1) (by rw [hargs]) ?_
  have hl := lv_entry ([.int xr]) (n := 1) (Nat.le_of_ble_eq_true rfl)
  rw [lg_entry_eq]
  generalize (lg_sl ([.int xr]) ++ List.replicate (1 - (lg_sl ([.int xr])).length) Slot.unset).toArray = ls at hl ⊢
  have hl : lv_has ls 1 [(0, .int xr)] := hl
  generalize ([] : List Loc) = locs at hS ⊢
  refine lv_iload_n hx hb dX6_isElevation_0 rfl (lv_at hl 0 rfl) ?_
  refine lv_iconst (v := nI 0) hx hb dX6_isElevation_1 (by decide) ?_
  refine lv_iconst (v := nI 3) hx hb dX6_isElevation_2 (by decide) ?_
  refine cr_i (wc := []) (w1 := []) (ws2 := []) hP hD hS hA [] rfl rfl rfl (va_runS (As := [.int xr, .int (nI 0), .int (nI 3)]) (rest := []) ⟨hx, hb, hml, hown, hts⟩ (c_X6_in_F l D cI cJ cZ xr 0 3 (by omega) (by omega) (by omega) H.size) (va_cwS 3 hts gX6_isElevation_X6_in rfl rfl rfl (by decide +kernel) ⟨Nat.le_of_ble_eq_true rfl, Nat.le_of_ble_eq_true rfl⟩) (pvS hT hP hD [] rfl rfl) rfl rfl hl.1 rfl (lv_room (Nat.le_of_ble_eq_true rfl)) dX6_isElevation_3 ⟨Nat.zero_le _, Nat.zero_le _⟩) (fun H locs hP hD hS => ?_)
  exact fin_z hx hb hr hlocks hP hD hS (rfl) dX6_isElevation_6
set_option maxHeartbeats 4000000 in
set_option maxRecDepth 100000 in
theorem c_X6_isLayer_g (l : Launch) (D : va_G) (cI cJ cZ : ClassId) (xr : Int32) (sz : Nat) : Met l yX6_isLayer wsX6_isLayer ({ frames := 1, cells := 0, slots := 0, locals := 22 } : Room) (va_Pc [.int xr] (mPre D cI cJ cZ [] sz)) (Qi9 D (va_A [] sz) [] (bI (decide (((0 : Nat) : Int) ≤ xr.toInt ∧ xr.toInt ≤ ((9 : Nat) : Int))))) 0 0 (va_A [] sz) := by
  refine Met.ofW (cc := cX6_isLayer) (maxL := 1) (ret := (some .boolean)) (by decide) rfl ?_
  intro p e s m args below meth c s₁ B hml hv
  obtain ⟨hargs, hsz, hP, hT, hD0⟩ := hv
  have hx := B.exec
  have hb := B.bytes
  have hr := B.returns
  have hts := atoms_spec (ws := wsX6_isLayer) B.pre
  have hown : s.vm.findClass RX6 = some m.cls := findClass_of_methodNamed B.named
  have hlocks := B.notSynchronized
  subst hsz
  have hK := hT.1
  have hD := hD0.self (sz := s.heap.size)
  generalize hAe : va_A [] s.heap.size = A at hD ⊢
  have hA : ∀ q : Nat, s.heap.size ≤ q → A q := fun q h => by rw [← hAe]; exact Or.inr h
  have hS : va_S A s.heap s.heap [] := va_S.rf
  obtain ⟨H, hHe⟩ : ∃ H : Heap, H = s.heap := ⟨_, rfl⟩
  have hS : va_S A s.heap H [] := by rw [hHe]; exact va_S.rf
  rw [← hHe] at hP
  suffices K0 : W p l e (headSpec wsX6_isLayer ({ frames := 1, cells := 0, slots := 0, locals := 22 } : Room)).room s m args below meth c H [] 0 0 (MQ below (Qi9 D A [] (bI (decide (((0 : Nat) : Int) ≤ xr.toInt ∧ xr.toInt ≤ ((9 : Nat) : Int))))) args s 0 0 A) (entryFrame m args 1) by rw [hHe] at K0; exact K0
  refine W.eq (g2 := entryFrame m ([.int xr] : List Value).toArray 1) (by rw [hargs]) ?_
  have hl := lv_entry ([.int xr]) (n := 1) (Nat.le_of_ble_eq_true rfl)
  rw [lg_entry_eq]
  generalize (lg_sl ([.int xr]) ++ List.replicate (1 - (lg_sl ([.int xr])).length) Slot.unset).toArray = ls at hl ⊢
  have hl : lv_has ls 1 [(0, .int xr)] := hl
  generalize ([] : List Loc) = locs at hS ⊢
  refine lv_iload_n hx hb dX6_isLayer_0 rfl (lv_at hl 0 rfl) ?_
  refine lv_iconst (v := nI 0) hx hb dX6_isLayer_1 (by decide) ?_
  refine lv_bipush (v := nI 9) hx hb dX6_isLayer_2 (by decide) ?_
  refine cr_i (wc := []) (w1 := []) (ws2 := []) hP hD hS hA [] rfl rfl rfl (va_runS (As := [.int xr, .int (nI 0), .int (nI 9)]) (rest := []) ⟨hx, hb, hml, hown, hts⟩ (c_X6_in_g l D cI cJ cZ xr 0 9 (by omega) (by omega) H.size) (va_cwS 3 hts gX6_isLayer_X6_in rfl rfl rfl (by decide +kernel) ⟨Nat.le_of_ble_eq_true rfl, Nat.le_of_ble_eq_true rfl⟩) (pvS hT hP hD [] rfl rfl) rfl rfl hl.1 rfl (lv_room (Nat.le_of_ble_eq_true rfl)) dX6_isLayer_4 ⟨Nat.zero_le _, Nat.zero_le _⟩) (fun H locs hP hD hS => ?_)
  exact fin_z hx hb hr hlocks hP hD hS (rfl) dX6_isLayer_7
set_option maxHeartbeats 4000000 in
set_option maxRecDepth 100000 in
theorem c_X6_goesWell_ok (l : Launch) (D : va_G) (cI cJ cZ : ClassId) (h0 : Nat) (thr : Nat) (mi : Nat) (me : Nat) (dp : Nat) (up : Bool) (dn : Nat) (ma : Nat) (mx : Nat) (mh : Nat) (mg : Nat) (mc : Nat) (mo : Nat) (mr : Nat) (mf : Nat) (mk : Nat) (ml : Nat) (wp : Int64) (wl : Int64) (ru : Nat) (sm : Nat) (sz : Nat) : Met l yX6_goesWell wsX6_goesWell ({ frames := 0, cells := 0, slots := 0, locals := 0 } : Room) (va_Pc [.ref h0, .int (nI 0)] (mPre D cI cJ cZ [(h0, .inr (6, [.int (nI thr), .int (nI mi), .int (nI me), .int (nI dp), .int (bI up), .int (nI dn), .ref ma, .ref mx, .ref mh, .ref mg, .ref mc, .ref mo, .ref mr, .ref mf, .long wp, .long wl, .int (nI ru), .int (nI sm), .ref mk, .ref ml]))] sz)) (Qi9 D (va_A [(h0, .inr (6, [.int (nI thr), .int (nI mi), .int (nI me), .int (nI dp), .int (bI up), .int (nI dn), .ref ma, .ref mx, .ref mh, .ref mg, .ref mc, .ref mo, .ref mr, .ref mf, .long wp, .long wl, .int (nI ru), .int (nI sm), .ref mk, .ref ml]))] sz) [(h0, .inr (6, [.int (nI 0), .int (nI mi), .int (nI me), .int (nI dp), .int (bI up), .int (nI dn), .ref ma, .ref mx, .ref mh, .ref mg, .ref mc, .ref mo, .ref mr, .ref mf, .long wp, .long wl, .int (nI ru), .int (nI sm), .ref mk, .ref ml]))] (bI true)) 0 0 (va_A [(h0, .inr (6, [.int (nI thr), .int (nI mi), .int (nI me), .int (nI dp), .int (bI up), .int (nI dn), .ref ma, .ref mx, .ref mh, .ref mg, .ref mc, .ref mo, .ref mr, .ref mf, .long wp, .long wl, .int (nI ru), .int (nI sm), .ref mk, .ref ml]))] sz) := by
  refine Met.ofW (cc := cX6_goesWell) (maxL := 2) (ret := (some .boolean)) (by decide) rfl ?_
  intro p e s m args below meth c s₁ B hml hv
  obtain ⟨hargs, hsz, hP, hT, hD0⟩ := hv
  have hx := B.exec
  have hb := B.bytes
  have hr := B.returns
  have hts := atoms_spec (ws := wsX6_goesWell) B.pre
  have hown : s.vm.findClass RX6 = some m.cls := findClass_of_methodNamed B.named
  have hlocks := B.notSynchronized
  subst hsz
  have hK := hT.1
  have hD := hD0.self (sz := s.heap.size)
  generalize hAe : va_A [(h0, .inr (6, [.int (nI thr), .int (nI mi), .int (nI me), .int (nI dp), .int (bI up), .int (nI dn), .ref ma, .ref mx, .ref mh, .ref mg, .ref mc, .ref mo, .ref mr, .ref mf, .long wp, .long wl, .int (nI ru), .int (nI sm), .ref mk, .ref ml]))] s.heap.size = A at hD ⊢
  have hA : ∀ q : Nat, s.heap.size ≤ q → A q := fun q h => by rw [← hAe]; exact Or.inr h
  have hS : va_S A s.heap s.heap [] := va_S.rf
  obtain ⟨H, hHe⟩ : ∃ H : Heap, H = s.heap := ⟨_, rfl⟩
  have hS : va_S A s.heap H [] := by rw [hHe]; exact va_S.rf
  rw [← hHe] at hP
  suffices K0 : W p l e (headSpec wsX6_goesWell ({ frames := 0, cells := 0, slots := 0, locals := 0 } : Room)).room s m args below meth c H [] 0 0 (MQ below (Qi9 D A [(h0, .inr (6, [.int (nI 0), .int (nI mi), .int (nI me), .int (nI dp), .int (bI up), .int (nI dn), .ref ma, .ref mx, .ref mh, .ref mg, .ref mc, .ref mo, .ref mr, .ref mf, .long wp, .long wl, .int (nI ru), .int (nI sm), .ref mk, .ref ml]))] (bI true)) args s 0 0 A) (entryFrame m args 2) by rw [hHe] at K0; exact K0
  refine W.eq (g2 := entryFrame m ([.ref h0, .int (nI 0)] : List Value).toArray 2) (by rw [hargs]) ?_
  have hl := lv_entry ([.ref h0, .int (nI 0)]) (n := 2) (Nat.le_of_ble_eq_true rfl)
  rw [lg_entry_eq]
  generalize (lg_sl ([.ref h0, .int (nI 0)]) ++ List.replicate (2 - (lg_sl ([.ref h0, .int (nI 0)])).length) Slot.unset).toArray = ls at hl ⊢
  have hl : lv_has ls 2 [(0, .ref h0), (1, .int (nI 0))] := hl
  generalize ([] : List Loc) = locs at hS ⊢
  have hinX6 : ∀ w ∈ wsX60, w ∈ wsX6_goesWell := by decide +kernel
  have hf49 := hts (.fieldLink RX6 49 "BrightbandModel" "thrown" "I") (by decide +kernel)
  refine lv_aload_n hx hb dX6_goesWell_0 rfl (lv_at hl 0 rfl) ?_
  refine lv_iload_n hx hb dX6_goesWell_1 rfl (lv_at hl 1 rfl) ?_
  refine va_put (D := D) (ci := 6) (v := .int (nI 0)) (ty := .int) (C := RX6) (T := TX6) (N := 20) hx hb hts hinX6 tyX6 tyX6_ok nmX6 hown hK hP hD hS 0 rfl rfl 0 (by decide) hf49 (fun _ h9 => h9) rfl (by decide +kernel) rfl rfl (Nat.le_of_ble_eq_true rfl) dX6_goesWell_2 (fun H locs hP hD hS => ?_)
  have hP : va_P D vwCl [(h0, .inr (6, [.int (nI 0), .int (nI mi), .int (nI me), .int (nI dp), .int (bI up), .int (nI dn), .ref ma, .ref mx, .ref mh, .ref mg, .ref mc, .ref mo, .ref mr, .ref mf, .long wp, .long wl, .int (nI ru), .int (nI sm), .ref mk, .ref ml]))] H := hP
  have hD : va_D A [(h0, .inr (6, [.int (nI 0), .int (nI mi), .int (nI me), .int (nI dp), .int (bI up), .int (nI dn), .ref ma, .ref mx, .ref mh, .ref mg, .ref mc, .ref mo, .ref mr, .ref mf, .long wp, .long wl, .int (nI ru), .int (nI sm), .ref mk, .ref ml]))] := hD
  refine lv_iload_n hx hb dX6_goesWell_5 rfl (lv_at hl 1 rfl) ?_
  refine c0_ne (tgt := 13) hx hb dX6_goesWell_6 (by decide) (nT (by omega)) (fun c_6 => by omega) (fun c_6 => ?_)
  refine lv_iconst (v := nI 1) hx hb dX6_goesWell_9 (by decide) ?_
  refine lv_goto (tgt := 14) hx hb dX6_goesWell_10 (by decide) ?_
  exact fin_z hx hb hr hlocks hP hD hS (rfl) dX6_goesWell_14
set_option maxHeartbeats 4000000 in
set_option maxRecDepth 100000 in
theorem c_X6_goesWell_no (l : Launch) (D : va_G) (cI cJ cZ : ClassId) (h0 : Nat) (thr : Nat) (mi : Nat) (me : Nat) (dp : Nat) (up : Bool) (dn : Nat) (ma : Nat) (mx : Nat) (mh : Nat) (mg : Nat) (mc : Nat) (mo : Nat) (mr : Nat) (mf : Nat) (mk : Nat) (ml : Nat) (wp : Int64) (wl : Int64) (ru : Nat) (sm : Nat) (pl : Nat) (hpl : pl ≠ 0) (hpb : pl < 10) (sz : Nat) : Met l yX6_goesWell wsX6_goesWell ({ frames := 0, cells := 0, slots := 0, locals := 0 } : Room) (va_Pc [.ref h0, .int (nI pl)] (mPre D cI cJ cZ [(h0, .inr (6, [.int (nI thr), .int (nI mi), .int (nI me), .int (nI dp), .int (bI up), .int (nI dn), .ref ma, .ref mx, .ref mh, .ref mg, .ref mc, .ref mo, .ref mr, .ref mf, .long wp, .long wl, .int (nI ru), .int (nI sm), .ref mk, .ref ml]))] sz)) (Qi9 D (va_A [(h0, .inr (6, [.int (nI thr), .int (nI mi), .int (nI me), .int (nI dp), .int (bI up), .int (nI dn), .ref ma, .ref mx, .ref mh, .ref mg, .ref mc, .ref mo, .ref mr, .ref mf, .long wp, .long wl, .int (nI ru), .int (nI sm), .ref mk, .ref ml]))] sz) [(h0, .inr (6, [.int (nI pl), .int (nI mi), .int (nI me), .int (nI dp), .int (bI up), .int (nI dn), .ref ma, .ref mx, .ref mh, .ref mg, .ref mc, .ref mo, .ref mr, .ref mf, .long wp, .long wl, .int (nI ru), .int (nI sm), .ref mk, .ref ml]))] (bI false)) 0 0 (va_A [(h0, .inr (6, [.int (nI thr), .int (nI mi), .int (nI me), .int (nI dp), .int (bI up), .int (nI dn), .ref ma, .ref mx, .ref mh, .ref mg, .ref mc, .ref mo, .ref mr, .ref mf, .long wp, .long wl, .int (nI ru), .int (nI sm), .ref mk, .ref ml]))] sz) := by
  refine Met.ofW (cc := cX6_goesWell) (maxL := 2) (ret := (some .boolean)) (by decide) rfl ?_
  intro p e s m args below meth c s₁ B hml hv
  obtain ⟨hargs, hsz, hP, hT, hD0⟩ := hv
  have hx := B.exec
  have hb := B.bytes
  have hr := B.returns
  have hts := atoms_spec (ws := wsX6_goesWell) B.pre
  have hown : s.vm.findClass RX6 = some m.cls := findClass_of_methodNamed B.named
  have hlocks := B.notSynchronized
  subst hsz
  have hK := hT.1
  have hD := hD0.self (sz := s.heap.size)
  generalize hAe : va_A [(h0, .inr (6, [.int (nI thr), .int (nI mi), .int (nI me), .int (nI dp), .int (bI up), .int (nI dn), .ref ma, .ref mx, .ref mh, .ref mg, .ref mc, .ref mo, .ref mr, .ref mf, .long wp, .long wl, .int (nI ru), .int (nI sm), .ref mk, .ref ml]))] s.heap.size = A at hD ⊢
  have hA : ∀ q : Nat, s.heap.size ≤ q → A q := fun q h => by rw [← hAe]; exact Or.inr h
  have hS : va_S A s.heap s.heap [] := va_S.rf
  obtain ⟨H, hHe⟩ : ∃ H : Heap, H = s.heap := ⟨_, rfl⟩
  have hS : va_S A s.heap H [] := by rw [hHe]; exact va_S.rf
  rw [← hHe] at hP
  suffices K0 : W p l e (headSpec wsX6_goesWell ({ frames := 0, cells := 0, slots := 0, locals := 0 } : Room)).room s m args below meth c H [] 0 0 (MQ below (Qi9 D A [(h0, .inr (6, [.int (nI pl), .int (nI mi), .int (nI me), .int (nI dp), .int (bI up), .int (nI dn), .ref ma, .ref mx, .ref mh, .ref mg, .ref mc, .ref mo, .ref mr, .ref mf, .long wp, .long wl, .int (nI ru), .int (nI sm), .ref mk, .ref ml]))] (bI false)) args s 0 0 A) (entryFrame m args 2) by rw [hHe] at K0; exact K0
  refine W.eq (g2 := entryFrame m ([.ref h0, .int (nI pl)] : List Value).toArray 2) (by rw [hargs]) ?_
  have hl := lv_entry ([.ref h0, .int (nI pl)]) (n := 2) (Nat.le_of_ble_eq_true rfl)
  rw [lg_entry_eq]
  generalize (lg_sl ([.ref h0, .int (nI pl)]) ++ List.replicate (2 - (lg_sl ([.ref h0, .int (nI pl)])).length) Slot.unset).toArray = ls at hl ⊢
  have hl : lv_has ls 2 [(0, .ref h0), (1, .int (nI pl))] := hl
  generalize ([] : List Loc) = locs at hS ⊢
  have hinX6 : ∀ w ∈ wsX60, w ∈ wsX6_goesWell := by decide +kernel
  have hf49 := hts (.fieldLink RX6 49 "BrightbandModel" "thrown" "I") (by decide +kernel)
  refine lv_aload_n hx hb dX6_goesWell_0 rfl (lv_at hl 0 rfl) ?_
  refine lv_iload_n hx hb dX6_goesWell_1 rfl (lv_at hl 1 rfl) ?_
  refine va_put (D := D) (ci := 6) (v := .int (nI pl)) (ty := .int) (C := RX6) (T := TX6) (N := 20) hx hb hts hinX6 tyX6 tyX6_ok nmX6 hown hK hP hD hS 0 rfl rfl 0 (by decide) hf49 (fun _ h9 => h9) rfl (by decide +kernel) rfl rfl (Nat.le_of_ble_eq_true rfl) dX6_goesWell_2 (fun H locs hP hD hS => ?_)
  have hP : va_P D vwCl [(h0, .inr (6, [.int (nI pl), .int (nI mi), .int (nI me), .int (nI dp), .int (bI up), .int (nI dn), .ref ma, .ref mx, .ref mh, .ref mg, .ref mc, .ref mo, .ref mr, .ref mf, .long wp, .long wl, .int (nI ru), .int (nI sm), .ref mk, .ref ml]))] H := hP
  have hD : va_D A [(h0, .inr (6, [.int (nI pl), .int (nI mi), .int (nI me), .int (nI dp), .int (bI up), .int (nI dn), .ref ma, .ref mx, .ref mh, .ref mg, .ref mc, .ref mo, .ref mr, .ref mf, .long wp, .long wl, .int (nI ru), .int (nI sm), .ref mk, .ref ml]))] := hD
  refine lv_iload_n hx hb dX6_goesWell_5 rfl (lv_at hl 1 rfl) ?_
  refine c0_ne (tgt := 13) hx hb dX6_goesWell_6 (by decide) (nT (by omega)) (fun c_6 => ?_) (fun c_6 => by omega)
  refine lv_iconst (v := nI 0) hx hb dX6_goesWell_13 (by decide) ?_
  exact fin_z hx hb hr hlocks hP hD hS (rfl) dX6_goesWell_14
set_option maxHeartbeats 4000000 in
set_option maxRecDepth 100000 in
theorem c_X6_thrown (l : Launch) (D : va_G) (cI cJ cZ : ClassId) (h0 : Nat) (thr : Nat) (mi : Nat) (me : Nat) (dp : Nat) (up : Bool) (dn : Nat) (ma : Nat) (mx : Nat) (mh : Nat) (mg : Nat) (mc : Nat) (mo : Nat) (mr : Nat) (mf : Nat) (mk : Nat) (ml : Nat) (wp : Int64) (wl : Int64) (ru : Nat) (sm : Nat) (sz : Nat) : Met l yX6_thrown wsX6_thrown ({ frames := 0, cells := 0, slots := 0, locals := 0 } : Room) (va_Pc [.ref h0] (mPre D cI cJ cZ [(h0, .inr (6, [.int (nI thr), .int (nI mi), .int (nI me), .int (nI dp), .int (bI up), .int (nI dn), .ref ma, .ref mx, .ref mh, .ref mg, .ref mc, .ref mo, .ref mr, .ref mf, .long wp, .long wl, .int (nI ru), .int (nI sm), .ref mk, .ref ml]))] sz)) (Qi9 D (va_A [(h0, .inr (6, [.int (nI thr), .int (nI mi), .int (nI me), .int (nI dp), .int (bI up), .int (nI dn), .ref ma, .ref mx, .ref mh, .ref mg, .ref mc, .ref mo, .ref mr, .ref mf, .long wp, .long wl, .int (nI ru), .int (nI sm), .ref mk, .ref ml]))] sz) [(h0, .inr (6, [.int (nI thr), .int (nI mi), .int (nI me), .int (nI dp), .int (bI up), .int (nI dn), .ref ma, .ref mx, .ref mh, .ref mg, .ref mc, .ref mo, .ref mr, .ref mf, .long wp, .long wl, .int (nI ru), .int (nI sm), .ref mk, .ref ml]))] (nI thr)) 0 0 (va_A [(h0, .inr (6, [.int (nI thr), .int (nI mi), .int (nI me), .int (nI dp), .int (bI up), .int (nI dn), .ref ma, .ref mx, .ref mh, .ref mg, .ref mc, .ref mo, .ref mr, .ref mf, .long wp, .long wl, .int (nI ru), .int (nI sm), .ref mk, .ref ml]))] sz) := by
  refine Met.ofW (cc := cX6_thrown) (maxL := 1) (ret := (some .int)) (by decide) rfl ?_
  intro p e s m args below meth c s₁ B hml hv
  obtain ⟨hargs, hsz, hP, hT, hD0⟩ := hv
  have hx := B.exec
  have hb := B.bytes
  have hr := B.returns
  have hts := atoms_spec (ws := wsX6_thrown) B.pre
  have hown : s.vm.findClass RX6 = some m.cls := findClass_of_methodNamed B.named
  have hlocks := B.notSynchronized
  subst hsz
  have hK := hT.1
  have hD := hD0.self (sz := s.heap.size)
  generalize hAe : va_A [(h0, .inr (6, [.int (nI thr), .int (nI mi), .int (nI me), .int (nI dp), .int (bI up), .int (nI dn), .ref ma, .ref mx, .ref mh, .ref mg, .ref mc, .ref mo, .ref mr, .ref mf, .long wp, .long wl, .int (nI ru), .int (nI sm), .ref mk, .ref ml]))] s.heap.size = A at hD ⊢
  have hA : ∀ q : Nat, s.heap.size ≤ q → A q := fun q h => by rw [← hAe]; exact Or.inr h
  have hS : va_S A s.heap s.heap [] := va_S.rf
  obtain ⟨H, hHe⟩ : ∃ H : Heap, H = s.heap := ⟨_, rfl⟩
  have hS : va_S A s.heap H [] := by rw [hHe]; exact va_S.rf
  rw [← hHe] at hP
  suffices K0 : W p l e (headSpec wsX6_thrown ({ frames := 0, cells := 0, slots := 0, locals := 0 } : Room)).room s m args below meth c H [] 0 0 (MQ below (Qi9 D A [(h0, .inr (6, [.int (nI thr), .int (nI mi), .int (nI me), .int (nI dp), .int (bI up), .int (nI dn), .ref ma, .ref mx, .ref mh, .ref mg, .ref mc, .ref mo, .ref mr, .ref mf, .long wp, .long wl, .int (nI ru), .int (nI sm), .ref mk, .ref ml]))] (nI thr)) args s 0 0 A) (entryFrame m args 1) by rw [hHe] at K0; exact K0
  refine W.eq (g2 := entryFrame m ([.ref h0] : List Value).toArray 1) (by rw [hargs]) ?_
  have hl := lv_entry ([.ref h0]) (n := 1) (Nat.le_of_ble_eq_true rfl)
  rw [lg_entry_eq]
  generalize (lg_sl ([.ref h0]) ++ List.replicate (1 - (lg_sl ([.ref h0])).length) Slot.unset).toArray = ls at hl ⊢
  have hl : lv_has ls 1 [(0, .ref h0)] := hl
  generalize ([] : List Loc) = locs at hS ⊢
  have hinX6 : ∀ w ∈ wsX60, w ∈ wsX6_thrown := by decide +kernel
  have hf49 := hts (.fieldLink RX6 49 "BrightbandModel" "thrown" "I") (by decide +kernel)
  refine lv_aload_n hx hb dX6_thrown_0 rfl (lv_at hl 0 rfl) ?_
  refine va_get (D := D) (ci := 6) (v := .int (nI thr)) (C := RX6) (T := TX6) (N := 20) hx hb hts hinX6 hown hK hP 0 rfl rfl 0 (by decide) hf49 (fun _ h9 => h9) rfl dX6_thrown_1 ?_
  exact fin_i hx hb hr hlocks hP hD hS (rfl) dX6_thrown_4
set_option maxHeartbeats 4000000 in
set_option maxRecDepth 100000 in
theorem c_X6_phaseOf (l : Launch) (D : va_G) (cI cJ cZ : ClassId) (h0 : Nat) (thr : Nat) (mi : Nat) (me : Nat) (dp : Nat) (up : Bool) (dn : Nat) (ma : Nat) (mx : Nat) (mh : Nat) (mg : Nat) (mc : Nat) (mo : Nat) (mr : Nat) (mf : Nat) (mk : Nat) (ml : Nat) (wp : Int64) (wl : Int64) (ru : Nat) (sm : Nat) (la : Nat) (hla : la < 1000) (hme : me < 1000) (sz : Nat) : Met l yX6_phaseOf wsX6_phaseOf ({ frames := 0, cells := 0, slots := 0, locals := 0 } : Room) (va_Pc [.ref h0, .int (nI la)] (mPre D cI cJ cZ [(h0, .inr (6, [.int (nI thr), .int (nI mi), .int (nI me), .int (nI dp), .int (bI up), .int (nI dn), .ref ma, .ref mx, .ref mh, .ref mg, .ref mc, .ref mo, .ref mr, .ref mf, .long wp, .long wl, .int (nI ru), .int (nI sm), .ref mk, .ref ml]))] sz)) (Qi9 D (va_A [(h0, .inr (6, [.int (nI thr), .int (nI mi), .int (nI me), .int (nI dp), .int (bI up), .int (nI dn), .ref ma, .ref mx, .ref mh, .ref mg, .ref mc, .ref mo, .ref mr, .ref mf, .long wp, .long wl, .int (nI ru), .int (nI sm), .ref mk, .ref ml]))] sz) [(h0, .inr (6, [.int (nI thr), .int (nI mi), .int (nI me), .int (nI dp), .int (bI up), .int (nI dn), .ref ma, .ref mx, .ref mh, .ref mg, .ref mc, .ref mo, .ref mr, .ref mf, .long wp, .long wl, .int (nI ru), .int (nI sm), .ref mk, .ref ml]))] (nI (phN la me))) 0 0 (va_A [(h0, .inr (6, [.int (nI thr), .int (nI mi), .int (nI me), .int (nI dp), .int (bI up), .int (nI dn), .ref ma, .ref mx, .ref mh, .ref mg, .ref mc, .ref mo, .ref mr, .ref mf, .long wp, .long wl, .int (nI ru), .int (nI sm), .ref mk, .ref ml]))] sz) := by
  refine Met.ofW (cc := cX6_phaseOf) (maxL := 2) (ret := (some .int)) (by decide) rfl ?_
  intro p e s m args below meth c s₁ B hml hv
  obtain ⟨hargs, hsz, hP, hT, hD0⟩ := hv
  have hx := B.exec
  have hb := B.bytes
  have hr := B.returns
  have hts := atoms_spec (ws := wsX6_phaseOf) B.pre
  have hown : s.vm.findClass RX6 = some m.cls := findClass_of_methodNamed B.named
  have hlocks := B.notSynchronized
  subst hsz
  have hK := hT.1
  have hD := hD0.self (sz := s.heap.size)
  generalize hAe : va_A [(h0, .inr (6, [.int (nI thr), .int (nI mi), .int (nI me), .int (nI dp), .int (bI up), .int (nI dn), .ref ma, .ref mx, .ref mh, .ref mg, .ref mc, .ref mo, .ref mr, .ref mf, .long wp, .long wl, .int (nI ru), .int (nI sm), .ref mk, .ref ml]))] s.heap.size = A at hD ⊢
  have hA : ∀ q : Nat, s.heap.size ≤ q → A q := fun q h => by rw [← hAe]; exact Or.inr h
  have hS : va_S A s.heap s.heap [] := va_S.rf
  obtain ⟨H, hHe⟩ : ∃ H : Heap, H = s.heap := ⟨_, rfl⟩
  have hS : va_S A s.heap H [] := by rw [hHe]; exact va_S.rf
  rw [← hHe] at hP
  suffices K0 : W p l e (headSpec wsX6_phaseOf ({ frames := 0, cells := 0, slots := 0, locals := 0 } : Room)).room s m args below meth c H [] 0 0 (MQ below (Qi9 D A [(h0, .inr (6, [.int (nI thr), .int (nI mi), .int (nI me), .int (nI dp), .int (bI up), .int (nI dn), .ref ma, .ref mx, .ref mh, .ref mg, .ref mc, .ref mo, .ref mr, .ref mf, .long wp, .long wl, .int (nI ru), .int (nI sm), .ref mk, .ref ml]))] (nI (phN la me))) args s 0 0 A) (entryFrame m args 2) by rw [hHe] at K0; exact K0
  refine W.eq (g2 := entryFrame m ([.ref h0, .int (nI la)] : List Value).toArray 2) (by rw [hargs]) ?_
  have hl := lv_entry ([.ref h0, .int (nI la)]) (n := 2) (Nat.le_of_ble_eq_true rfl)
  rw [lg_entry_eq]
  generalize (lg_sl ([.ref h0, .int (nI la)]) ++ List.replicate (2 - (lg_sl ([.ref h0, .int (nI la)])).length) Slot.unset).toArray = ls at hl ⊢
  have hl : lv_has ls 2 [(0, .ref h0), (1, .int (nI la))] := hl
  generalize ([] : List Loc) = locs at hS ⊢
  have hinX6 : ∀ w ∈ wsX60, w ∈ wsX6_phaseOf := by decide +kernel
  have hf7 := hts (.fieldLink RX6 7 "BrightbandModel" "melts" "I") (by decide +kernel)
  refine lv_iload_n hx hb dX6_phaseOf_0 rfl (lv_at hl 1 rfl) ?_
  refine lv_aload_n hx hb dX6_phaseOf_1 rfl (lv_at hl 0 rfl) ?_
  refine va_get (D := D) (ci := 6) (v := .int (nI me)) (C := RX6) (T := TX6) (N := 20) hx hb hts hinX6 hown hK hP 0 rfl rfl 2 (by decide) hf7 (fun _ h9 => h9) rfl dX6_phaseOf_2 ?_
  refine ci_le (tgt := 12) hx hb dX6_phaseOf_5 (by decide) (nT (by omega)) (nT (by omega)) (fun c_5 => ?_) (fun c_5 => ?_)
  · refine lv_iload_n hx hb dX6_phaseOf_12 rfl (lv_at hl 1 rfl) ?_
    refine lv_aload_n hx hb dX6_phaseOf_13 rfl (lv_at hl 0 rfl) ?_
    refine va_get (D := D) (ci := 6) (v := .int (nI me)) (C := RX6) (T := TX6) (N := 20) hx hb hts hinX6 hown hK hP 0 rfl rfl 2 (by decide) hf7 (fun _ h9 => h9) rfl dX6_phaseOf_14 ?_
    refine ci_ne (tgt := 24) hx hb dX6_phaseOf_17 (by decide) (nT (by omega)) (nT (by omega)) (fun c_17 => ?_) (fun c_17 => ?_)
    · refine lv_iconst (v := nI 2) hx hb dX6_phaseOf_24 (by decide) ?_
      exact fin_i hx hb hr hlocks hP hD hS ((congrArg nI (by unfold phN; (repeat' split) <;> omega))) dX6_phaseOf_25
    · refine lv_iconst (v := nI 1) hx hb dX6_phaseOf_20 (by decide) ?_
      refine lv_goto (tgt := 25) hx hb dX6_phaseOf_21 (by decide) ?_
      exact fin_i hx hb hr hlocks hP hD hS ((congrArg nI (by unfold phN; (repeat' split) <;> omega))) dX6_phaseOf_25
  · refine lv_iconst (v := nI 0) hx hb dX6_phaseOf_8 (by decide) ?_
    refine lv_goto (tgt := 25) hx hb dX6_phaseOf_9 (by decide) ?_
    exact fin_i hx hb hr hlocks hP hD hS ((congrArg nI (by unfold phN; (repeat' split) <;> omega))) dX6_phaseOf_25
set_option maxHeartbeats 4000000 in
set_option maxRecDepth 100000 in
theorem c_X6_beam (l : Launch) (D : va_G) (cI cJ cZ : ClassId) (ki : Nat) (ev : Nat) (hki : ki < 20) (hev : ev < 4) (sz : Nat) : Met l yX6_beam wsX6_beam ({ frames := 0, cells := 0, slots := 0, locals := 0 } : Room) (va_Pc [.int (nI ki), .int (nI ev)] (mPre D cI cJ cZ [] sz)) (Qi9 D (va_A [] sz) [] (nI (bmN ki ev))) 0 0 (va_A [] sz) := by
  refine Met.ofW (cc := cX6_beam) (maxL := 2) (ret := (some .int)) (by decide) rfl ?_
  intro p e s m args below meth c s₁ B hml hv
  obtain ⟨hargs, hsz, hP, hT, hD0⟩ := hv
  have hx := B.exec
  have hb := B.bytes
  have hr := B.returns
  have hts := atoms_spec (ws := wsX6_beam) B.pre
  have hown : s.vm.findClass RX6 = some m.cls := findClass_of_methodNamed B.named
  have hlocks := B.notSynchronized
  subst hsz
  have hK := hT.1
  have hD := hD0.self (sz := s.heap.size)
  generalize hAe : va_A [] s.heap.size = A at hD ⊢
  have hA : ∀ q : Nat, s.heap.size ≤ q → A q := fun q h => by rw [← hAe]; exact Or.inr h
  have hS : va_S A s.heap s.heap [] := va_S.rf
  obtain ⟨H, hHe⟩ : ∃ H : Heap, H = s.heap := ⟨_, rfl⟩
  have hS : va_S A s.heap H [] := by rw [hHe]; exact va_S.rf
  rw [← hHe] at hP
  suffices K0 : W p l e (headSpec wsX6_beam ({ frames := 0, cells := 0, slots := 0, locals := 0 } : Room)).room s m args below meth c H [] 0 0 (MQ below (Qi9 D A [] (nI (bmN ki ev))) args s 0 0 A) (entryFrame m args 2) by rw [hHe] at K0; exact K0
  refine W.eq (g2 := entryFrame m ([.int (nI ki), .int (nI ev)] : List Value).toArray 2) (by rw [hargs]) ?_
  have hl := lv_entry ([.int (nI ki), .int (nI ev)]) (n := 2) (Nat.le_of_ble_eq_true rfl)
  rw [lg_entry_eq]
  generalize (lg_sl ([.int (nI ki), .int (nI ev)]) ++ List.replicate (2 - (lg_sl ([.int (nI ki), .int (nI ev)])).length) Slot.unset).toArray = ls at hl ⊢
  have hl : lv_has ls 2 [(0, .int (nI ki)), (1, .int (nI ev))] := hl
  generalize ([] : List Loc) = locs at hS ⊢
  have q1 : ev * ki ≤ 3 * 19 := Nat.mul_le_mul (by omega) (by omega)
  have q2 : ki * ki ≤ 19 * 19 := Nat.mul_le_mul (by omega) (by omega)
  have q3 : ev * ki / 4 ≤ 57 := by omega
  have q4 : ki * ki / 100 ≤ 361 := by omega
  refine lv_iload_n hx hb dX6_beam_0 rfl (lv_at hl 1 rfl) ?_
  refine lv_iload_n hx hb dX6_beam_1 rfl (lv_at hl 0 rfl) ?_
  refine lv_imul hx hb dX6_beam_2 ?_
  refine tp_i (pk_mul _ _) ?_
  refine lv_iconst (v := nI 4) hx hb dX6_beam_3 (by decide) ?_
  refine lv_idiv hx hb dX6_beam_4 (by decide) ?_
  refine tp_i (pk_div (by omega) (by omega) (by omega)) ?_
  refine lv_iload_n hx hb dX6_beam_5 rfl (lv_at hl 0 rfl) ?_
  refine lv_iload_n hx hb dX6_beam_6 rfl (lv_at hl 0 rfl) ?_
  refine lv_imul hx hb dX6_beam_7 ?_
  refine tp_i (pk_mul _ _) ?_
  refine lv_bipush (v := nI 100) hx hb dX6_beam_8 (by decide) ?_
  refine lv_idiv hx hb dX6_beam_10 (by decide) ?_
  refine tp_i (pk_div (by omega) (by omega) (by omega)) ?_
  refine lv_iadd hx hb dX6_beam_11 ?_
  refine tp_i (nI_add _ _) ?_
  exact fin_i hx hb hr hlocks hP hD hS (rfl) dX6_beam_12
set_option maxHeartbeats 4000000 in
set_option maxRecDepth 100000 in
theorem c_X6_drops (l : Launch) (D : va_G) (cI cJ cZ : ClassId) (h0 : Nat) (thr : Nat) (mi : Nat) (me : Nat) (dp : Nat) (up : Bool) (dn : Nat) (ma : Nat) (mx : Nat) (mh : Nat) (mg : Nat) (mc : Nat) (mo : Nat) (mr : Nat) (mf : Nat) (mk : Nat) (ml : Nat) (wp : Int64) (wl : Int64) (ru : Nat) (sm : Nat) (C : Nat → Nat) (ki : Nat) (la : Nat) (si : Nat) (mn : Nat) (hki : ki < 20) (hla : la < 10) (hs1 : 1 ≤ si) (hs3 : si ≤ 3) (hm1 : 1 ≤ mn) (hm2 : mn ≤ 1000) (hdn : dn < 100) (sz : Nat) : Met l yX6_drops wsX6_drops ({ frames := 2, cells := 0, slots := 0, locals := 42 } : Room) (va_Pc [.ref h0, .int (nI ki), .int (nI la), .int (nI si), .int (nI mn)] (mPre D cI cJ cZ [(h0, .inr (6, [.int (nI thr), .int (nI mi), .int (nI me), .int (nI dp), .int (bI up), .int (nI dn), .ref ma, .ref mx, .ref mh, .ref mg, .ref mc, .ref mo, .ref mr, .ref mf, .long wp, .long wl, .int (nI ru), .int (nI sm), .ref mk, .ref ml])), (ma, .inl (cI, 600, .inl (nA C)))] sz)) (Qi9 D (va_A [(h0, .inr (6, [.int (nI thr), .int (nI mi), .int (nI me), .int (nI dp), .int (bI up), .int (nI dn), .ref ma, .ref mx, .ref mh, .ref mg, .ref mc, .ref mo, .ref mr, .ref mf, .long wp, .long wl, .int (nI ru), .int (nI sm), .ref mk, .ref ml])), (ma, .inl (cI, 600, .inl (nA C)))] sz) [(h0, .inr (6, [.int (nI 0), .int (nI mi), .int (nI me), .int (nI dp), .int (bI up), .int (nI (dn + 1)), .ref ma, .ref mx, .ref mh, .ref mg, .ref mc, .ref mo, .ref mr, .ref mf, .long (wp + wtm mn si), .long wl, .int (nI ru), .int (nI sm), .ref mk, .ref ml])), (ma, .inl (cI, 600, .inl (nA (uN C (30 * ki + 3 * la + si - 1) (C (30 * ki + 3 * la + si - 1) + mn)))))] (nI (C (30 * ki + 3 * la + si - 1) + mn))) 0 0 (va_A [(h0, .inr (6, [.int (nI thr), .int (nI mi), .int (nI me), .int (nI dp), .int (bI up), .int (nI dn), .ref ma, .ref mx, .ref mh, .ref mg, .ref mc, .ref mo, .ref mr, .ref mf, .long wp, .long wl, .int (nI ru), .int (nI sm), .ref mk, .ref ml])), (ma, .inl (cI, 600, .inl (nA C)))] sz) := by
  refine Met.ofW (cc := cX6_drops) (maxL := 8) (ret := (some .int)) (by decide) rfl ?_
  intro p e s m args below meth c s₁ B hml hv
  obtain ⟨hargs, hsz, hP, hT, hD0⟩ := hv
  have hx := B.exec
  have hb := B.bytes
  have hr := B.returns
  have hts := atoms_spec (ws := wsX6_drops) B.pre
  have hown : s.vm.findClass RX6 = some m.cls := findClass_of_methodNamed B.named
  have hlocks := B.notSynchronized
  subst hsz
  have hK := hT.1
  have hD := hD0.self (sz := s.heap.size)
  generalize hAe : va_A [(h0, .inr (6, [.int (nI thr), .int (nI mi), .int (nI me), .int (nI dp), .int (bI up), .int (nI dn), .ref ma, .ref mx, .ref mh, .ref mg, .ref mc, .ref mo, .ref mr, .ref mf, .long wp, .long wl, .int (nI ru), .int (nI sm), .ref mk, .ref ml])), (ma, .inl (cI, 600, .inl (nA C)))] s.heap.size = A at hD ⊢
  have hA : ∀ q : Nat, s.heap.size ≤ q → A q := fun q h => by rw [← hAe]; exact Or.inr h
  have hS : va_S A s.heap s.heap [] := va_S.rf
  obtain ⟨H, hHe⟩ : ∃ H : Heap, H = s.heap := ⟨_, rfl⟩
  have hS : va_S A s.heap H [] := by rw [hHe]; exact va_S.rf
  rw [← hHe] at hP
  suffices K0 : W p l e (headSpec wsX6_drops ({ frames := 2, cells := 0, slots := 0, locals := 42 } : Room)).room s m args below meth c H [] 0 0 (MQ below (Qi9 D A [(h0, .inr (6, [.int (nI 0), .int (nI mi), .int (nI me), .int (nI dp), .int (bI up), .int (nI (dn + 1)), .ref ma, .ref mx, .ref mh, .ref mg, .ref mc, .ref mo, .ref mr, .ref mf, .long (wp + wtm mn si), .long wl, .int (nI ru), .int (nI sm), .ref mk, .ref ml])), (ma, .inl (cI, 600, .inl (nA (uN C (30 * ki + 3 * la + si - 1) (C (30 * ki + 3 * la + si - 1) + mn)))))] (nI (C (30 * ki + 3 * la + si - 1) + mn))) args s 0 0 A) (entryFrame m args 8) by rw [hHe] at K0; exact K0
  refine W.eq (g2 := entryFrame m ([.ref h0, .int (nI ki), .int (nI la), .int (nI si), .int (nI mn)] : List Value).toArray 8) (by rw [hargs]) ?_
  have hl := lv_entry ([.ref h0, .int (nI ki), .int (nI la), .int (nI si), .int (nI mn)]) (n := 8) (Nat.le_of_ble_eq_true rfl)
  rw [lg_entry_eq]
  generalize (lg_sl ([.ref h0, .int (nI ki), .int (nI la), .int (nI si), .int (nI mn)]) ++ List.replicate (8 - (lg_sl ([.ref h0, .int (nI ki), .int (nI la), .int (nI si), .int (nI mn)])).length) Slot.unset).toArray = ls at hl ⊢
  have hl : lv_has ls 8 [(0, .ref h0), (1, .int (nI ki)), (2, .int (nI la)), (3, .int (nI si)), (4, .int (nI mn))] := hl
  generalize ([] : List Loc) = locs at hS ⊢
  have hinX6 : ∀ w ∈ wsX60, w ∈ wsX6_drops := by decide +kernel
  have hf63 := hts (.fieldLink RX6 63 "BrightbandModel" "done" "I") (by decide +kernel)
  have hf13 := hts (.fieldLink RX6 13 "BrightbandModel" "air" "[I") (by decide +kernel)
  have hf69 := hts (.fieldLink RX6 69 "BrightbandModel" "put" "J") (by decide +kernel)
  refine lv_iload_n hx hb dX6_drops_0 rfl (lv_at hl 1 rfl) ?_
  refine cr_i (wc := []) (w1 := []) (ws2 := [(h0, .inr (6, [.int (nI thr), .int (nI mi), .int (nI me), .int (nI dp), .int (bI up), .int (nI dn), .ref ma, .ref mx, .ref mh, .ref mg, .ref mc, .ref mo, .ref mr, .ref mf, .long wp, .long wl, .int (nI ru), .int (nI sm), .ref mk, .ref ml])), (ma, .inl (cI, 600, .inl (nA C)))]) hP hD hS hA [] rfl rfl rfl (va_runS (As := [.int (nI ki)]) (rest := []) ⟨hx, hb, hml, hown, hts⟩ (c_X6_isPlace_T l D cI cJ cZ ki (by omega) H.size) (va_cwS 1 hts gX6_drops_X6_isPlace rfl rfl rfl (by decide +kernel) ⟨Nat.le_of_ble_eq_true rfl, Nat.le_of_ble_eq_true rfl⟩) (pvS hT hP hD [] rfl rfl) rfl rfl hl.1 rfl (lv_room (Nat.le_of_ble_eq_true rfl)) dX6_drops_1 ⟨Nat.zero_le _, Nat.zero_le _⟩) (fun H locs hP hD hS => ?_)
  refine cb_eq (tgt := 18) hx hb dX6_drops_4 (by decide) (fun c_4 => absurd c_4 (by decide)) (fun c_4 => ?_)
  refine lv_iload_n hx hb dX6_drops_7 rfl (lv_at hl 2 rfl) ?_
  refine cr_i (wc := []) (w1 := []) (ws2 := [(h0, .inr (6, [.int (nI thr), .int (nI mi), .int (nI me), .int (nI dp), .int (bI up), .int (nI dn), .ref ma, .ref mx, .ref mh, .ref mg, .ref mc, .ref mo, .ref mr, .ref mf, .long wp, .long wl, .int (nI ru), .int (nI sm), .ref mk, .ref ml])), (ma, .inl (cI, 600, .inl (nA C)))]) hP hD hS hA [] rfl rfl rfl (va_runS (As := [.int (nI la)]) (rest := []) ⟨hx, hb, hml, hown, hts⟩ (c_X6_isLayer_T l D cI cJ cZ la (by omega) H.size) (va_cwS 1 hts gX6_drops_X6_isLayer rfl rfl rfl (by decide +kernel) ⟨Nat.le_of_ble_eq_true rfl, Nat.le_of_ble_eq_true rfl⟩) (pvS hT hP hD [] rfl rfl) rfl rfl hl.1 rfl (lv_room (Nat.le_of_ble_eq_true rfl)) dX6_drops_8 ⟨Nat.zero_le _, Nat.zero_le _⟩) (fun H locs hP hD hS => ?_)
  refine cb_eq (tgt := 18) hx hb dX6_drops_11 (by decide) (fun c_11 => absurd c_11 (by decide)) (fun c_11 => ?_)
  refine lv_iconst (v := nI 1) hx hb dX6_drops_14 (by decide) ?_
  refine lv_goto (tgt := 19) hx hb dX6_drops_15 (by decide) ?_
  refine lv_istore (lv' := [(5, .int (nI 1)), (0, .ref h0), (1, .int (nI ki)), (2, .int (nI la)), (3, .int (nI si)), (4, .int (nI mn))]) hx hb dX6_drops_19 hl (by decide) rfl (fun ls hl => ?_)
  refine lv_iload_n hx hb dX6_drops_21 rfl (lv_at hl 4 rfl) ?_
  refine lv_iconst (v := nI 1) hx hb dX6_drops_22 (by decide) ?_
  refine lv_iconst (v := nI 3) hx hb dX6_drops_23 (by decide) ?_
  refine cr_i (wc := []) (w1 := []) (ws2 := [(h0, .inr (6, [.int (nI thr), .int (nI mi), .int (nI me), .int (nI dp), .int (bI up), .int (nI dn), .ref ma, .ref mx, .ref mh, .ref mg, .ref mc, .ref mo, .ref mr, .ref mf, .long wp, .long wl, .int (nI ru), .int (nI sm), .ref mk, .ref ml])), (ma, .inl (cI, 600, .inl (nA C)))]) hP hD hS hA [] rfl rfl rfl (va_runS (As := [.int (nI si), .int (nI 1), .int (nI 3)]) (rest := []) ⟨hx, hb, hml, hown, hts⟩ (c_X6_in_T l D cI cJ cZ si 1 3 (by omega) (by omega) (by omega) H.size) (va_cwS 3 hts gX6_drops_X6_in rfl rfl rfl (by decide +kernel) ⟨Nat.le_of_ble_eq_true rfl, Nat.le_of_ble_eq_true rfl⟩) (pvS hT hP hD [] rfl rfl) rfl rfl hl.1 rfl (lv_room (Nat.le_of_ble_eq_true rfl)) dX6_drops_24 ⟨Nat.zero_le _, Nat.zero_le _⟩) (fun H locs hP hD hS => ?_)
  refine cb_eq (tgt := 46) hx hb dX6_drops_27 (by decide) (fun c_27 => absurd c_27 (by decide)) (fun c_27 => ?_)
  refine lv_iload hx hb dX6_drops_30 (lv_at hl 5 rfl) ?_
  refine lv_iconst (v := nI 1) hx hb dX6_drops_32 (by decide) ?_
  refine lv_sipush (v := nI 1000) hx hb dX6_drops_33 (by decide) ?_
  refine cr_i (wc := []) (w1 := []) (ws2 := [(h0, .inr (6, [.int (nI thr), .int (nI mi), .int (nI me), .int (nI dp), .int (bI up), .int (nI dn), .ref ma, .ref mx, .ref mh, .ref mg, .ref mc, .ref mo, .ref mr, .ref mf, .long wp, .long wl, .int (nI ru), .int (nI sm), .ref mk, .ref ml])), (ma, .inl (cI, 600, .inl (nA C)))]) hP hD hS hA [] rfl rfl rfl (va_runS (As := [.int (nI mn), .int (nI 1), .int (nI 1000)]) (rest := []) ⟨hx, hb, hml, hown, hts⟩ (c_X6_in_T l D cI cJ cZ mn 1 1000 (by omega) (by omega) (by omega) H.size) (va_cwS 3 hts gX6_drops_X6_in rfl rfl rfl (by decide +kernel) ⟨Nat.le_of_ble_eq_true rfl, Nat.le_of_ble_eq_true rfl⟩) (pvS hT hP hD [] rfl rfl) rfl rfl hl.1 rfl (lv_room (Nat.le_of_ble_eq_true rfl)) dX6_drops_36 ⟨Nat.zero_le _, Nat.zero_le _⟩) (fun H locs hP hD hS => ?_)
  refine cb_eq (tgt := 46) hx hb dX6_drops_39 (by decide) (fun c_39 => absurd c_39 (by decide)) (fun c_39 => ?_)
  refine lv_iconst (v := nI 1) hx hb dX6_drops_42 (by decide) ?_
  refine lv_goto (tgt := 47) hx hb dX6_drops_43 (by decide) ?_
  refine lv_istore (lv' := [(6, .int (nI 1)), (5, .int (nI 1)), (0, .ref h0), (1, .int (nI ki)), (2, .int (nI la)), (3, .int (nI si)), (4, .int (nI mn))]) hx hb dX6_drops_47 hl (by decide) rfl (fun ls hl => ?_)
  refine lv_aload_n hx hb dX6_drops_49 rfl (lv_at hl 2 rfl) ?_
  refine lv_iload hx hb dX6_drops_50 (lv_at hl 1 rfl) ?_
  refine c0_ne (tgt := 59) hx hb dX6_drops_52 (by decide) (nT (by omega)) (fun c_52 => ?_) (fun c_52 => by omega)
  refine lv_iload hx hb dX6_drops_59 (lv_at hl 0 rfl) ?_
  refine c0_ne (tgt := 68) hx hb dX6_drops_61 (by decide) (nT (by omega)) (fun c_61 => ?_) (fun c_61 => by omega)
  refine lv_aload_n hx hb dX6_drops_68 rfl (lv_at hl 2 rfl) ?_
  refine va_get (D := D) (ci := 6) (v := .int (nI dn)) (C := RX6) (T := TX6) (N := 20) hx hb hts hinX6 hown hK hP 0 rfl rfl 5 (by decide) hf63 (fun _ h9 => h9) rfl dX6_drops_69 ?_
  refine lv_bipush (v := nI 100) hx hb dX6_drops_72 (by decide) ?_
  refine ci_ne (tgt := 81) hx hb dX6_drops_74 (by decide) (nT (by omega)) (nT (by omega)) (fun c_74 => ?_) (fun c_74 => by omega)
  refine lv_iconst (v := nI 0) hx hb dX6_drops_81 (by decide) ?_
  refine cr_i (wc := [(h0, .inr (6, [.int (nI thr), .int (nI mi), .int (nI me), .int (nI dp), .int (bI up), .int (nI dn), .ref ma, .ref mx, .ref mh, .ref mg, .ref mc, .ref mo, .ref mr, .ref mf, .long wp, .long wl, .int (nI ru), .int (nI sm), .ref mk, .ref ml]))]) (w1 := [(h0, .inr (6, [.int (nI 0), .int (nI mi), .int (nI me), .int (nI dp), .int (bI up), .int (nI dn), .ref ma, .ref mx, .ref mh, .ref mg, .ref mc, .ref mo, .ref mr, .ref mf, .long wp, .long wl, .int (nI ru), .int (nI sm), .ref mk, .ref ml]))]) (ws2 := [(h0, .inr (6, [.int (nI 0), .int (nI mi), .int (nI me), .int (nI dp), .int (bI up), .int (nI dn), .ref ma, .ref mx, .ref mh, .ref mg, .ref mc, .ref mo, .ref mr, .ref mf, .long wp, .long wl, .int (nI ru), .int (nI sm), .ref mk, .ref ml])), (ma, .inl (cI, 600, .inl (nA C)))]) hP hD hS hA [0] rfl rfl rfl (va_runV (As := [.int (nI 0)]) (rest := []) ⟨hx, hb, hml, hown, hts⟩ (c_X6_goesWell_ok l D cI cJ cZ h0 thr mi me dp up dn ma mx mh mg mc mo mr mf mk ml wp wl ru sm H.size) (cwV 1 hts gX6_drops_X6_goesWell rfl rfl rfl (by decide +kernel) ⟨Nat.le_of_ble_eq_true rfl, Nat.le_of_ble_eq_true rfl⟩) (pvV hT hP hD [0] rfl rfl 0 rfl rfl) rfl rfl hl.1 rfl (lv_room (Nat.le_of_ble_eq_true rfl)) dX6_drops_82 ⟨Nat.zero_le _, Nat.zero_le _⟩) (fun H locs hP hD hS => ?_)
  refine cb_ne (tgt := 90) hx hb dX6_drops_85 (by decide) (fun c_85 => ?_) (fun c_85 => absurd c_85 (by decide))
  refine lv_bipush (v := nI 30) hx hb dX6_drops_90 (by decide) ?_
  refine lv_iload_n hx hb dX6_drops_92 rfl (lv_at hl 3 rfl) ?_
  refine lv_imul hx hb dX6_drops_93 ?_
  refine tp_i (pk_mul _ _) ?_
  refine lv_iconst (v := nI 3) hx hb dX6_drops_94 (by decide) ?_
  refine lv_iload_n hx hb dX6_drops_95 rfl (lv_at hl 4 rfl) ?_
  refine lv_imul hx hb dX6_drops_96 ?_
  refine tp_i (pk_mul _ _) ?_
  refine lv_iadd hx hb dX6_drops_97 ?_
  refine tp_i (nI_add _ _) ?_
  refine lv_iload_n hx hb dX6_drops_98 rfl (lv_at hl 5 rfl) ?_
  refine lv_iadd hx hb dX6_drops_99 ?_
  refine tp_i (nI_add _ _) ?_
  refine lv_iconst (v := nI 1) hx hb dX6_drops_100 (by decide) ?_
  refine lv_isub hx hb dX6_drops_101 ?_
  refine tp_i (pk_sub (by omega)) ?_
  refine lv_istore (lv' := [(7, .int (nI ((((30 * ki) + (3 * la)) + si) - 1))), (6, .int (nI 1)), (5, .int (nI 1)), (0, .ref h0), (1, .int (nI ki)), (2, .int (nI la)), (3, .int (nI si)), (4, .int (nI mn))]) hx hb dX6_drops_102 hl (by decide) rfl (fun ls hl => ?_)
  refine lv_aload_n hx hb dX6_drops_104 rfl (lv_at hl 3 rfl) ?_
  refine va_get (D := D) (ci := 6) (v := .ref ma) (C := RX6) (T := TX6) (N := 20) hx hb hts hinX6 hown hK hP 0 rfl rfl 6 (by decide) hf13 (fun _ h9 => h9) rfl dX6_drops_105 ?_
  refine lv_iload hx hb dX6_drops_108 (lv_at hl 0 rfl) ?_
  refine lv_dup2_11 hx hb dX6_drops_110 rfl rfl ?_
  refine ald_N hx hb hK hP 1 0 rfl rfl ((((30 * ki) + (3 * la)) + si) - 1) rfl (by omega) (Nat.le_of_ble_eq_true rfl) dX6_drops_111 ?_
  refine lv_iload hx hb dX6_drops_112 (lv_at hl 7 rfl) ?_
  refine lv_iadd hx hb dX6_drops_114 ?_
  refine tp_i (nI_add _ _) ?_
  refine ast_N (x := (C ((((30 * ki) + (3 * la)) + si) - 1)) + mn) hx hb hK hP hD hS 1 0 rfl rfl ((((30 * ki) + (3 * la)) + si) - 1) rfl (by omega) (Nat.le_of_ble_eq_true rfl) dX6_drops_115 (fun H locs hP hD hS => ?_)
  have hP : va_P D vwCl [(h0, .inr (6, [.int (nI 0), .int (nI mi), .int (nI me), .int (nI dp), .int (bI up), .int (nI dn), .ref ma, .ref mx, .ref mh, .ref mg, .ref mc, .ref mo, .ref mr, .ref mf, .long wp, .long wl, .int (nI ru), .int (nI sm), .ref mk, .ref ml])), (ma, .inl (cI, 600, .inl (nA (uN C ((((30 * ki) + (3 * la)) + si) - 1) ((C ((((30 * ki) + (3 * la)) + si) - 1)) + mn)))))] H := hP
  have hD : va_D A [(h0, .inr (6, [.int (nI 0), .int (nI mi), .int (nI me), .int (nI dp), .int (bI up), .int (nI dn), .ref ma, .ref mx, .ref mh, .ref mg, .ref mc, .ref mo, .ref mr, .ref mf, .long wp, .long wl, .int (nI ru), .int (nI sm), .ref mk, .ref ml])), (ma, .inl (cI, 600, .inl (nA (uN C ((((30 * ki) + (3 * la)) + si) - 1) ((C ((((30 * ki) + (3 * la)) + si) - 1)) + mn)))))] := hD
  refine lv_aload_n hx hb dX6_drops_116 rfl (lv_at hl 3 rfl) ?_
  refine lv_dup hx hb dX6_drops_117 rfl ?_
  refine va_get (D := D) (ci := 6) (v := .long wp) (C := RX6) (T := TX6) (N := 20) hx hb hts hinX6 hown hK hP 0 rfl rfl 14 (by decide) hf69 (fun _ h9 => h9) rfl dX6_drops_118 ?_
  refine lv_iload hx hb dX6_drops_121 (lv_at hl 7 rfl) ?_
  refine lv_i2l (v := (nI mn).toInt64) hx hb dX6_drops_123 rfl ?_
  refine lv_iload_n hx hb dX6_drops_124 rfl (lv_at hl 6 rfl) ?_
  refine lv_i2l (v := (nI si).toInt64) hx hb dX6_drops_125 rfl ?_
  refine lv_lmul hx hb dX6_drops_126 ?_
  refine lv_iload_n hx hb dX6_drops_127 rfl (lv_at hl 6 rfl) ?_
  refine lv_i2l (v := (nI si).toInt64) hx hb dX6_drops_128 rfl ?_
  refine lv_lmul hx hb dX6_drops_129 ?_
  refine lv_iload_n hx hb dX6_drops_130 rfl (lv_at hl 6 rfl) ?_
  refine lv_i2l (v := (nI si).toInt64) hx hb dX6_drops_131 rfl ?_
  refine lv_lmul hx hb dX6_drops_132 ?_
  refine lv_ladd hx hb dX6_drops_133 ?_
  refine va_put (D := D) (ci := 6) (v := .long (wp + (((((nI mn).toInt64) * ((nI si).toInt64)) * ((nI si).toInt64)) * ((nI si).toInt64)))) (ty := .long) (C := RX6) (T := TX6) (N := 20) hx hb hts hinX6 tyX6 tyX6_ok nmX6 hown hK hP hD hS 0 rfl rfl 14 (by decide) hf69 (fun _ h9 => h9) rfl (by decide +kernel) rfl rfl (Nat.le_of_ble_eq_true rfl) dX6_drops_134 (fun H locs hP hD hS => ?_)
  have hP : va_P D vwCl [(h0, .inr (6, [.int (nI 0), .int (nI mi), .int (nI me), .int (nI dp), .int (bI up), .int (nI dn), .ref ma, .ref mx, .ref mh, .ref mg, .ref mc, .ref mo, .ref mr, .ref mf, .long (wp + (((((nI mn).toInt64) * ((nI si).toInt64)) * ((nI si).toInt64)) * ((nI si).toInt64))), .long wl, .int (nI ru), .int (nI sm), .ref mk, .ref ml])), (ma, .inl (cI, 600, .inl (nA (uN C ((((30 * ki) + (3 * la)) + si) - 1) ((C ((((30 * ki) + (3 * la)) + si) - 1)) + mn)))))] H := hP
  have hD : va_D A [(h0, .inr (6, [.int (nI 0), .int (nI mi), .int (nI me), .int (nI dp), .int (bI up), .int (nI dn), .ref ma, .ref mx, .ref mh, .ref mg, .ref mc, .ref mo, .ref mr, .ref mf, .long (wp + (((((nI mn).toInt64) * ((nI si).toInt64)) * ((nI si).toInt64)) * ((nI si).toInt64))), .long wl, .int (nI ru), .int (nI sm), .ref mk, .ref ml])), (ma, .inl (cI, 600, .inl (nA (uN C ((((30 * ki) + (3 * la)) + si) - 1) ((C ((((30 * ki) + (3 * la)) + si) - 1)) + mn)))))] := hD
  refine lv_aload_n hx hb dX6_drops_137 rfl (lv_at hl 3 rfl) ?_
  refine lv_dup hx hb dX6_drops_138 rfl ?_
  refine va_get (D := D) (ci := 6) (v := .int (nI dn)) (C := RX6) (T := TX6) (N := 20) hx hb hts hinX6 hown hK hP 0 rfl rfl 5 (by decide) hf63 (fun _ h9 => h9) rfl dX6_drops_139 ?_
  refine lv_iconst (v := nI 1) hx hb dX6_drops_142 (by decide) ?_
  refine lv_iadd hx hb dX6_drops_143 ?_
  refine tp_i (nI_add _ _) ?_
  refine va_put (D := D) (ci := 6) (v := .int (nI (dn + 1))) (ty := .int) (C := RX6) (T := TX6) (N := 20) hx hb hts hinX6 tyX6 tyX6_ok nmX6 hown hK hP hD hS 0 rfl rfl 5 (by decide) hf63 (fun _ h9 => h9) rfl (by decide +kernel) rfl rfl (Nat.le_of_ble_eq_true rfl) dX6_drops_144 (fun H locs hP hD hS => ?_)
  have hP : va_P D vwCl [(h0, .inr (6, [.int (nI 0), .int (nI mi), .int (nI me), .int (nI dp), .int (bI up), .int (nI (dn + 1)), .ref ma, .ref mx, .ref mh, .ref mg, .ref mc, .ref mo, .ref mr, .ref mf, .long (wp + (((((nI mn).toInt64) * ((nI si).toInt64)) * ((nI si).toInt64)) * ((nI si).toInt64))), .long wl, .int (nI ru), .int (nI sm), .ref mk, .ref ml])), (ma, .inl (cI, 600, .inl (nA (uN C ((((30 * ki) + (3 * la)) + si) - 1) ((C ((((30 * ki) + (3 * la)) + si) - 1)) + mn)))))] H := hP
  have hD : va_D A [(h0, .inr (6, [.int (nI 0), .int (nI mi), .int (nI me), .int (nI dp), .int (bI up), .int (nI (dn + 1)), .ref ma, .ref mx, .ref mh, .ref mg, .ref mc, .ref mo, .ref mr, .ref mf, .long (wp + (((((nI mn).toInt64) * ((nI si).toInt64)) * ((nI si).toInt64)) * ((nI si).toInt64))), .long wl, .int (nI ru), .int (nI sm), .ref mk, .ref ml])), (ma, .inl (cI, 600, .inl (nA (uN C ((((30 * ki) + (3 * la)) + si) - 1) ((C ((((30 * ki) + (3 * la)) + si) - 1)) + mn)))))] := hD
  refine lv_aload_n hx hb dX6_drops_147 rfl (lv_at hl 3 rfl) ?_
  refine va_get (D := D) (ci := 6) (v := .ref ma) (C := RX6) (T := TX6) (N := 20) hx hb hts hinX6 hown hK hP 0 rfl rfl 6 (by decide) hf13 (fun _ h9 => h9) rfl dX6_drops_148 ?_
  refine lv_iload hx hb dX6_drops_151 (lv_at hl 0 rfl) ?_
  refine ald_N hx hb hK hP 1 0 rfl rfl ((((30 * ki) + (3 * la)) + si) - 1) rfl (by omega) (Nat.le_of_ble_eq_true rfl) dX6_drops_153 ?_
  have hwe : ([(h0, .inr (6, [.int (nI 0), .int (nI mi), .int (nI me), .int (nI dp), .int (bI up), .int (nI (dn + 1)), .ref ma, .ref mx, .ref mh, .ref mg, .ref mc, .ref mo, .ref mr, .ref mf, .long (wp + wtm mn si), .long wl, .int (nI ru), .int (nI sm), .ref mk, .ref ml])), (ma, .inl (cI, 600, .inl (nA (uN C (30 * ki + 3 * la + si - 1) (C (30 * ki + 3 * la + si - 1) + mn)))))] : va_W) = [(h0, .inr (6, [.int (nI 0), .int (nI mi), .int (nI me), .int (nI dp), .int (bI up), .int (nI (dn + 1)), .ref ma, .ref mx, .ref mh, .ref mg, .ref mc, .ref mo, .ref mr, .ref mf, .long (wp + (((((nI mn).toInt64) * ((nI si).toInt64)) * ((nI si).toInt64)) * ((nI si).toInt64))), .long wl, .int (nI ru), .int (nI sm), .ref mk, .ref ml])), (ma, .inl (cI, 600, .inl (nA (uN C ((((30 * ki) + (3 * la)) + si) - 1) ((C ((((30 * ki) + (3 * la)) + si) - 1)) + mn)))))] := rfl
  have hP : va_P D vwCl [(h0, .inr (6, [.int (nI 0), .int (nI mi), .int (nI me), .int (nI dp), .int (bI up), .int (nI (dn + 1)), .ref ma, .ref mx, .ref mh, .ref mg, .ref mc, .ref mo, .ref mr, .ref mf, .long (wp + wtm mn si), .long wl, .int (nI ru), .int (nI sm), .ref mk, .ref ml])), (ma, .inl (cI, 600, .inl (nA (uN C (30 * ki + 3 * la + si - 1) (C (30 * ki + 3 * la + si - 1) + mn)))))] H := by rw [hwe]; exact hP
  have hD : va_D A [(h0, .inr (6, [.int (nI 0), .int (nI mi), .int (nI me), .int (nI dp), .int (bI up), .int (nI (dn + 1)), .ref ma, .ref mx, .ref mh, .ref mg, .ref mc, .ref mo, .ref mr, .ref mf, .long (wp + wtm mn si), .long wl, .int (nI ru), .int (nI sm), .ref mk, .ref ml])), (ma, .inl (cI, 600, .inl (nA (uN C (30 * ki + 3 * la + si - 1) (C (30 * ki + 3 * la + si - 1) + mn)))))] := by rw [hwe]; exact hD
  exact fin_i hx hb hr hlocks hP hD hS (congrArg nI uN_s) dX6_drops_154
set_option maxHeartbeats 4000000 in
set_option maxRecDepth 100000 in
theorem c_X6_melt (l : Launch) (D : va_G) (cI cJ cZ : ClassId) (h0 : Nat) (thr : Nat) (mi : Nat) (me : Nat) (dp : Nat) (up : Bool) (dn : Nat) (ma : Nat) (mx : Nat) (mh : Nat) (mg : Nat) (mc : Nat) (mo : Nat) (mr : Nat) (mf : Nat) (mk : Nat) (ml : Nat) (wp : Int64) (wl : Int64) (ru : Nat) (sm : Nat) (la : Nat) (hla : la < 10) (sz : Nat) : Met l yX6_melt wsX6_melt ({ frames := 2, cells := 0, slots := 0, locals := 42 } : Room) (va_Pc [.ref h0, .int (nI la)] (mPre D cI cJ cZ [(h0, .inr (6, [.int (nI thr), .int (nI mi), .int (nI me), .int (nI dp), .int (bI up), .int (nI dn), .ref ma, .ref mx, .ref mh, .ref mg, .ref mc, .ref mo, .ref mr, .ref mf, .long wp, .long wl, .int (nI ru), .int (nI sm), .ref mk, .ref ml]))] sz)) (Qi9 D (va_A [(h0, .inr (6, [.int (nI thr), .int (nI mi), .int (nI me), .int (nI dp), .int (bI up), .int (nI dn), .ref ma, .ref mx, .ref mh, .ref mg, .ref mc, .ref mo, .ref mr, .ref mf, .long wp, .long wl, .int (nI ru), .int (nI sm), .ref mk, .ref ml]))] sz) [(h0, .inr (6, [.int (nI 0), .int (nI mi), .int (nI la), .int (nI dp), .int (bI up), .int (nI dn), .ref ma, .ref mx, .ref mh, .ref mg, .ref mc, .ref mo, .ref mr, .ref mf, .long wp, .long wl, .int (nI ru), .int (nI sm), .ref mk, .ref ml]))] (nI me)) 0 0 (va_A [(h0, .inr (6, [.int (nI thr), .int (nI mi), .int (nI me), .int (nI dp), .int (bI up), .int (nI dn), .ref ma, .ref mx, .ref mh, .ref mg, .ref mc, .ref mo, .ref mr, .ref mf, .long wp, .long wl, .int (nI ru), .int (nI sm), .ref mk, .ref ml]))] sz) := by
  refine Met.ofW (cc := cX6_melt) (maxL := 3) (ret := (some .int)) (by decide) rfl ?_
  intro p e s m args below meth c s₁ B hml hv
  obtain ⟨hargs, hsz, hP, hT, hD0⟩ := hv
  have hx := B.exec
  have hb := B.bytes
  have hr := B.returns
  have hts := atoms_spec (ws := wsX6_melt) B.pre
  have hown : s.vm.findClass RX6 = some m.cls := findClass_of_methodNamed B.named
  have hlocks := B.notSynchronized
  subst hsz
  have hK := hT.1
  have hD := hD0.self (sz := s.heap.size)
  generalize hAe : va_A [(h0, .inr (6, [.int (nI thr), .int (nI mi), .int (nI me), .int (nI dp), .int (bI up), .int (nI dn), .ref ma, .ref mx, .ref mh, .ref mg, .ref mc, .ref mo, .ref mr, .ref mf, .long wp, .long wl, .int (nI ru), .int (nI sm), .ref mk, .ref ml]))] s.heap.size = A at hD ⊢
  have hA : ∀ q : Nat, s.heap.size ≤ q → A q := fun q h => by rw [← hAe]; exact Or.inr h
  have hS : va_S A s.heap s.heap [] := va_S.rf
  obtain ⟨H, hHe⟩ : ∃ H : Heap, H = s.heap := ⟨_, rfl⟩
  have hS : va_S A s.heap H [] := by rw [hHe]; exact va_S.rf
  rw [← hHe] at hP
  suffices K0 : W p l e (headSpec wsX6_melt ({ frames := 2, cells := 0, slots := 0, locals := 42 } : Room)).room s m args below meth c H [] 0 0 (MQ below (Qi9 D A [(h0, .inr (6, [.int (nI 0), .int (nI mi), .int (nI la), .int (nI dp), .int (bI up), .int (nI dn), .ref ma, .ref mx, .ref mh, .ref mg, .ref mc, .ref mo, .ref mr, .ref mf, .long wp, .long wl, .int (nI ru), .int (nI sm), .ref mk, .ref ml]))] (nI me)) args s 0 0 A) (entryFrame m args 3) by rw [hHe] at K0; exact K0
  refine W.eq (g2 := entryFrame m ([.ref h0, .int (nI la)] : List Value).toArray 3) (by rw [hargs]) ?_
  have hl := lv_entry ([.ref h0, .int (nI la)]) (n := 3) (Nat.le_of_ble_eq_true rfl)
  rw [lg_entry_eq]
  generalize (lg_sl ([.ref h0, .int (nI la)]) ++ List.replicate (3 - (lg_sl ([.ref h0, .int (nI la)])).length) Slot.unset).toArray = ls at hl ⊢
  have hl : lv_has ls 3 [(0, .ref h0), (1, .int (nI la))] := hl
  generalize ([] : List Loc) = locs at hS ⊢
  have hinX6 : ∀ w ∈ wsX60, w ∈ wsX6_melt := by decide +kernel
  have hf7 := hts (.fieldLink RX6 7 "BrightbandModel" "melts" "I") (by decide +kernel)
  refine lv_aload_n hx hb dX6_melt_0 rfl (lv_at hl 0 rfl) ?_
  refine lv_iload_n hx hb dX6_melt_1 rfl (lv_at hl 1 rfl) ?_
  refine cr_i (wc := []) (w1 := []) (ws2 := [(h0, .inr (6, [.int (nI thr), .int (nI mi), .int (nI me), .int (nI dp), .int (bI up), .int (nI dn), .ref ma, .ref mx, .ref mh, .ref mg, .ref mc, .ref mo, .ref mr, .ref mf, .long wp, .long wl, .int (nI ru), .int (nI sm), .ref mk, .ref ml]))]) hP hD hS hA [] rfl rfl rfl (va_runS (As := [.int (nI la)]) (rest := [.ref h0]) ⟨hx, hb, hml, hown, hts⟩ (c_X6_isLayer_T l D cI cJ cZ la (by omega) H.size) (va_cwS 1 hts gX6_melt_X6_isLayer rfl rfl rfl (by decide +kernel) ⟨Nat.le_of_ble_eq_true rfl, Nat.le_of_ble_eq_true rfl⟩) (pvS hT hP hD [] rfl rfl) rfl rfl hl.1 rfl (lv_room (Nat.le_of_ble_eq_true rfl)) dX6_melt_2 ⟨Nat.zero_le _, Nat.zero_le _⟩) (fun H locs hP hD hS => ?_)
  refine cb_eq (tgt := 12) hx hb dX6_melt_5 (by decide) (fun c_5 => absurd c_5 (by decide)) (fun c_5 => ?_)
  refine lv_iconst (v := nI 0) hx hb dX6_melt_8 (by decide) ?_
  refine lv_goto (tgt := 13) hx hb dX6_melt_9 (by decide) ?_
  refine cr_i (wc := [(h0, .inr (6, [.int (nI thr), .int (nI mi), .int (nI me), .int (nI dp), .int (bI up), .int (nI dn), .ref ma, .ref mx, .ref mh, .ref mg, .ref mc, .ref mo, .ref mr, .ref mf, .long wp, .long wl, .int (nI ru), .int (nI sm), .ref mk, .ref ml]))]) (w1 := [(h0, .inr (6, [.int (nI 0), .int (nI mi), .int (nI me), .int (nI dp), .int (bI up), .int (nI dn), .ref ma, .ref mx, .ref mh, .ref mg, .ref mc, .ref mo, .ref mr, .ref mf, .long wp, .long wl, .int (nI ru), .int (nI sm), .ref mk, .ref ml]))]) (ws2 := [(h0, .inr (6, [.int (nI 0), .int (nI mi), .int (nI me), .int (nI dp), .int (bI up), .int (nI dn), .ref ma, .ref mx, .ref mh, .ref mg, .ref mc, .ref mo, .ref mr, .ref mf, .long wp, .long wl, .int (nI ru), .int (nI sm), .ref mk, .ref ml]))]) hP hD hS hA [0] rfl rfl rfl (va_runV (As := [.int (nI 0)]) (rest := []) ⟨hx, hb, hml, hown, hts⟩ (c_X6_goesWell_ok l D cI cJ cZ h0 thr mi me dp up dn ma mx mh mg mc mo mr mf mk ml wp wl ru sm H.size) (cwV 1 hts gX6_melt_X6_goesWell rfl rfl rfl (by decide +kernel) ⟨Nat.le_of_ble_eq_true rfl, Nat.le_of_ble_eq_true rfl⟩) (pvV hT hP hD [0] rfl rfl 0 rfl rfl) rfl rfl hl.1 rfl (lv_room (Nat.le_of_ble_eq_true rfl)) dX6_melt_13 ⟨Nat.zero_le _, Nat.zero_le _⟩) (fun H locs hP hD hS => ?_)
  refine cb_ne (tgt := 21) hx hb dX6_melt_16 (by decide) (fun c_16 => ?_) (fun c_16 => absurd c_16 (by decide))
  refine lv_aload_n hx hb dX6_melt_21 rfl (lv_at hl 0 rfl) ?_
  refine va_get (D := D) (ci := 6) (v := .int (nI me)) (C := RX6) (T := TX6) (N := 20) hx hb hts hinX6 hown hK hP 0 rfl rfl 2 (by decide) hf7 (fun _ h9 => h9) rfl dX6_melt_22 ?_
  refine lv_istore_n (lv' := [(2, .int (nI me)), (0, .ref h0), (1, .int (nI la))]) hx hb dX6_melt_25 rfl hl (by decide) rfl (fun ls hl => ?_)
  refine lv_aload_n hx hb dX6_melt_26 rfl (lv_at hl 1 rfl) ?_
  refine lv_iload_n hx hb dX6_melt_27 rfl (lv_at hl 2 rfl) ?_
  refine va_put (D := D) (ci := 6) (v := .int (nI la)) (ty := .int) (C := RX6) (T := TX6) (N := 20) hx hb hts hinX6 tyX6 tyX6_ok nmX6 hown hK hP hD hS 0 rfl rfl 2 (by decide) hf7 (fun _ h9 => h9) rfl (by decide +kernel) rfl rfl (Nat.le_of_ble_eq_true rfl) dX6_melt_28 (fun H locs hP hD hS => ?_)
  have hP : va_P D vwCl [(h0, .inr (6, [.int (nI 0), .int (nI mi), .int (nI la), .int (nI dp), .int (bI up), .int (nI dn), .ref ma, .ref mx, .ref mh, .ref mg, .ref mc, .ref mo, .ref mr, .ref mf, .long wp, .long wl, .int (nI ru), .int (nI sm), .ref mk, .ref ml]))] H := hP
  have hD : va_D A [(h0, .inr (6, [.int (nI 0), .int (nI mi), .int (nI la), .int (nI dp), .int (bI up), .int (nI dn), .ref ma, .ref mx, .ref mh, .ref mg, .ref mc, .ref mo, .ref mr, .ref mf, .long wp, .long wl, .int (nI ru), .int (nI sm), .ref mk, .ref ml]))] := hD
  refine lv_iload_n hx hb dX6_melt_31 rfl (lv_at hl 0 rfl) ?_
  exact fin_i hx hb hr hlocks hP hD hS (rfl) dX6_melt_32
set_option maxHeartbeats 4000000 in
set_option maxRecDepth 100000 in
theorem c_X6_hill (l : Launch) (D : va_G) (cI cJ cZ : ClassId) (h0 : Nat) (thr : Nat) (mi : Nat) (me : Nat) (dp : Nat) (up : Bool) (dn : Nat) (ma : Nat) (mx : Nat) (mh : Nat) (mg : Nat) (mc : Nat) (mo : Nat) (mr : Nat) (mf : Nat) (mk : Nat) (ml : Nat) (wp : Int64) (wl : Int64) (ru : Nat) (sm : Nat) (HI : Nat → Nat) (ki : Nat) (hh : Nat) (hki : ki < 20) (hhh : hh ≤ 9) (sz : Nat) : Met l yX6_hill wsX6_hill ({ frames := 2, cells := 0, slots := 0, locals := 42 } : Room) (va_Pc [.ref h0, .int (nI ki), .int (nI hh)] (mPre D cI cJ cZ [(h0, .inr (6, [.int (nI thr), .int (nI mi), .int (nI me), .int (nI dp), .int (bI up), .int (nI dn), .ref ma, .ref mx, .ref mh, .ref mg, .ref mc, .ref mo, .ref mr, .ref mf, .long wp, .long wl, .int (nI ru), .int (nI sm), .ref mk, .ref ml])), (mh, .inl (cI, 20, .inl (nA HI)))] sz)) (Qi9 D (va_A [(h0, .inr (6, [.int (nI thr), .int (nI mi), .int (nI me), .int (nI dp), .int (bI up), .int (nI dn), .ref ma, .ref mx, .ref mh, .ref mg, .ref mc, .ref mo, .ref mr, .ref mf, .long wp, .long wl, .int (nI ru), .int (nI sm), .ref mk, .ref ml])), (mh, .inl (cI, 20, .inl (nA HI)))] sz) [(h0, .inr (6, [.int (nI 0), .int (nI mi), .int (nI me), .int (nI dp), .int (bI up), .int (nI dn), .ref ma, .ref mx, .ref mh, .ref mg, .ref mc, .ref mo, .ref mr, .ref mf, .long wp, .long wl, .int (nI ru), .int (nI sm), .ref mk, .ref ml])), (mh, .inl (cI, 20, .inl (nA (uN HI ki hh))))] (nI (HI ki))) 0 0 (va_A [(h0, .inr (6, [.int (nI thr), .int (nI mi), .int (nI me), .int (nI dp), .int (bI up), .int (nI dn), .ref ma, .ref mx, .ref mh, .ref mg, .ref mc, .ref mo, .ref mr, .ref mf, .long wp, .long wl, .int (nI ru), .int (nI sm), .ref mk, .ref ml])), (mh, .inl (cI, 20, .inl (nA HI)))] sz) := by
  refine Met.ofW (cc := cX6_hill) (maxL := 5) (ret := (some .int)) (by decide) rfl ?_
  intro p e s m args below meth c s₁ B hml hv
  obtain ⟨hargs, hsz, hP, hT, hD0⟩ := hv
  have hx := B.exec
  have hb := B.bytes
  have hr := B.returns
  have hts := atoms_spec (ws := wsX6_hill) B.pre
  have hown : s.vm.findClass RX6 = some m.cls := findClass_of_methodNamed B.named
  have hlocks := B.notSynchronized
  subst hsz
  have hK := hT.1
  have hD := hD0.self (sz := s.heap.size)
  generalize hAe : va_A [(h0, .inr (6, [.int (nI thr), .int (nI mi), .int (nI me), .int (nI dp), .int (bI up), .int (nI dn), .ref ma, .ref mx, .ref mh, .ref mg, .ref mc, .ref mo, .ref mr, .ref mf, .long wp, .long wl, .int (nI ru), .int (nI sm), .ref mk, .ref ml])), (mh, .inl (cI, 20, .inl (nA HI)))] s.heap.size = A at hD ⊢
  have hA : ∀ q : Nat, s.heap.size ≤ q → A q := fun q h => by rw [← hAe]; exact Or.inr h
  have hS : va_S A s.heap s.heap [] := va_S.rf
  obtain ⟨H, hHe⟩ : ∃ H : Heap, H = s.heap := ⟨_, rfl⟩
  have hS : va_S A s.heap H [] := by rw [hHe]; exact va_S.rf
  rw [← hHe] at hP
  suffices K0 : W p l e (headSpec wsX6_hill ({ frames := 2, cells := 0, slots := 0, locals := 42 } : Room)).room s m args below meth c H [] 0 0 (MQ below (Qi9 D A [(h0, .inr (6, [.int (nI 0), .int (nI mi), .int (nI me), .int (nI dp), .int (bI up), .int (nI dn), .ref ma, .ref mx, .ref mh, .ref mg, .ref mc, .ref mo, .ref mr, .ref mf, .long wp, .long wl, .int (nI ru), .int (nI sm), .ref mk, .ref ml])), (mh, .inl (cI, 20, .inl (nA (uN HI ki hh))))] (nI (HI ki))) args s 0 0 A) (entryFrame m args 5) by rw [hHe] at K0; exact K0
  refine W.eq (g2 := entryFrame m ([.ref h0, .int (nI ki), .int (nI hh)] : List Value).toArray 5) (by rw [hargs]) ?_
  have hl := lv_entry ([.ref h0, .int (nI ki), .int (nI hh)]) (n := 5) (Nat.le_of_ble_eq_true rfl)
  rw [lg_entry_eq]
  generalize (lg_sl ([.ref h0, .int (nI ki), .int (nI hh)]) ++ List.replicate (5 - (lg_sl ([.ref h0, .int (nI ki), .int (nI hh)])).length) Slot.unset).toArray = ls at hl ⊢
  have hl : lv_has ls 5 [(0, .ref h0), (1, .int (nI ki)), (2, .int (nI hh))] := hl
  generalize ([] : List Loc) = locs at hS ⊢
  have hinX6 : ∀ w ∈ wsX60, w ∈ wsX6_hill := by decide +kernel
  have hf20 := hts (.fieldLink RX6 20 "BrightbandModel" "hill" "[I") (by decide +kernel)
  refine lv_iload_n hx hb dX6_hill_0 rfl (lv_at hl 1 rfl) ?_
  refine cr_i (wc := []) (w1 := []) (ws2 := [(h0, .inr (6, [.int (nI thr), .int (nI mi), .int (nI me), .int (nI dp), .int (bI up), .int (nI dn), .ref ma, .ref mx, .ref mh, .ref mg, .ref mc, .ref mo, .ref mr, .ref mf, .long wp, .long wl, .int (nI ru), .int (nI sm), .ref mk, .ref ml])), (mh, .inl (cI, 20, .inl (nA HI)))]) hP hD hS hA [] rfl rfl rfl (va_runS (As := [.int (nI ki)]) (rest := []) ⟨hx, hb, hml, hown, hts⟩ (c_X6_isPlace_T l D cI cJ cZ ki (by omega) H.size) (va_cwS 1 hts gX6_hill_X6_isPlace rfl rfl rfl (by decide +kernel) ⟨Nat.le_of_ble_eq_true rfl, Nat.le_of_ble_eq_true rfl⟩) (pvS hT hP hD [] rfl rfl) rfl rfl hl.1 rfl (lv_room (Nat.le_of_ble_eq_true rfl)) dX6_hill_1 ⟨Nat.zero_le _, Nat.zero_le _⟩) (fun H locs hP hD hS => ?_)
  refine lv_istore_n (lv' := [(3, .int (bI true)), (0, .ref h0), (1, .int (nI ki)), (2, .int (nI hh))]) hx hb dX6_hill_4 rfl hl (by decide) rfl (fun ls hl => ?_)
  refine lv_aload_n hx hb dX6_hill_5 rfl (lv_at hl 1 rfl) ?_
  refine lv_iload_n hx hb dX6_hill_6 rfl (lv_at hl 0 rfl) ?_
  refine cb_ne (tgt := 14) hx hb dX6_hill_7 (by decide) (fun c_7 => ?_) (fun c_7 => absurd c_7 (by decide))
  refine lv_iload_n hx hb dX6_hill_14 rfl (lv_at hl 3 rfl) ?_
  refine lv_iconst (v := nI 0) hx hb dX6_hill_15 (by decide) ?_
  refine lv_bipush (v := nI 9) hx hb dX6_hill_16 (by decide) ?_
  refine cr_i (wc := []) (w1 := []) (ws2 := [(h0, .inr (6, [.int (nI thr), .int (nI mi), .int (nI me), .int (nI dp), .int (bI up), .int (nI dn), .ref ma, .ref mx, .ref mh, .ref mg, .ref mc, .ref mo, .ref mr, .ref mf, .long wp, .long wl, .int (nI ru), .int (nI sm), .ref mk, .ref ml])), (mh, .inl (cI, 20, .inl (nA HI)))]) hP hD hS hA [] rfl rfl rfl (va_runS (As := [.int (nI hh), .int (nI 0), .int (nI 9)]) (rest := [.ref h0]) ⟨hx, hb, hml, hown, hts⟩ (c_X6_in_T l D cI cJ cZ hh 0 9 (by omega) (by omega) (by omega) H.size) (va_cwS 3 hts gX6_hill_X6_in rfl rfl rfl (by decide +kernel) ⟨Nat.le_of_ble_eq_true rfl, Nat.le_of_ble_eq_true rfl⟩) (pvS hT hP hD [] rfl rfl) rfl rfl hl.1 rfl (lv_room (Nat.le_of_ble_eq_true rfl)) dX6_hill_18 ⟨Nat.zero_le _, Nat.zero_le _⟩) (fun H locs hP hD hS => ?_)
  refine cb_eq (tgt := 28) hx hb dX6_hill_21 (by decide) (fun c_21 => absurd c_21 (by decide)) (fun c_21 => ?_)
  refine lv_iconst (v := nI 0) hx hb dX6_hill_24 (by decide) ?_
  refine lv_goto (tgt := 29) hx hb dX6_hill_25 (by decide) ?_
  refine cr_i (wc := [(h0, .inr (6, [.int (nI thr), .int (nI mi), .int (nI me), .int (nI dp), .int (bI up), .int (nI dn), .ref ma, .ref mx, .ref mh, .ref mg, .ref mc, .ref mo, .ref mr, .ref mf, .long wp, .long wl, .int (nI ru), .int (nI sm), .ref mk, .ref ml]))]) (w1 := [(h0, .inr (6, [.int (nI 0), .int (nI mi), .int (nI me), .int (nI dp), .int (bI up), .int (nI dn), .ref ma, .ref mx, .ref mh, .ref mg, .ref mc, .ref mo, .ref mr, .ref mf, .long wp, .long wl, .int (nI ru), .int (nI sm), .ref mk, .ref ml]))]) (ws2 := [(h0, .inr (6, [.int (nI 0), .int (nI mi), .int (nI me), .int (nI dp), .int (bI up), .int (nI dn), .ref ma, .ref mx, .ref mh, .ref mg, .ref mc, .ref mo, .ref mr, .ref mf, .long wp, .long wl, .int (nI ru), .int (nI sm), .ref mk, .ref ml])), (mh, .inl (cI, 20, .inl (nA HI)))]) hP hD hS hA [0] rfl rfl rfl (va_runV (As := [.int (nI 0)]) (rest := []) ⟨hx, hb, hml, hown, hts⟩ (c_X6_goesWell_ok l D cI cJ cZ h0 thr mi me dp up dn ma mx mh mg mc mo mr mf mk ml wp wl ru sm H.size) (cwV 1 hts gX6_hill_X6_goesWell rfl rfl rfl (by decide +kernel) ⟨Nat.le_of_ble_eq_true rfl, Nat.le_of_ble_eq_true rfl⟩) (pvV hT hP hD [0] rfl rfl 0 rfl rfl) rfl rfl hl.1 rfl (lv_room (Nat.le_of_ble_eq_true rfl)) dX6_hill_29 ⟨Nat.zero_le _, Nat.zero_le _⟩) (fun H locs hP hD hS => ?_)
  refine cb_ne (tgt := 37) hx hb dX6_hill_32 (by decide) (fun c_32 => ?_) (fun c_32 => absurd c_32 (by decide))
  refine lv_aload_n hx hb dX6_hill_37 rfl (lv_at hl 1 rfl) ?_
  refine va_get (D := D) (ci := 6) (v := .ref mh) (C := RX6) (T := TX6) (N := 20) hx hb hts hinX6 hown hK hP 0 rfl rfl 8 (by decide) hf20 (fun _ h9 => h9) rfl dX6_hill_38 ?_
  refine lv_iload_n hx hb dX6_hill_41 rfl (lv_at hl 2 rfl) ?_
  refine ald_N hx hb hK hP 1 0 rfl rfl ki rfl (by omega) (Nat.le_of_ble_eq_true rfl) dX6_hill_42 ?_
  refine lv_istore (lv' := [(4, .int (nI (HI ki))), (3, .int (bI true)), (0, .ref h0), (1, .int (nI ki)), (2, .int (nI hh))]) hx hb dX6_hill_43 hl (by decide) rfl (fun ls hl => ?_)
  refine lv_aload_n hx hb dX6_hill_45 rfl (lv_at hl 2 rfl) ?_
  refine va_get (D := D) (ci := 6) (v := .ref mh) (C := RX6) (T := TX6) (N := 20) hx hb hts hinX6 hown hK hP 0 rfl rfl 8 (by decide) hf20 (fun _ h9 => h9) rfl dX6_hill_46 ?_
  refine lv_iload_n hx hb dX6_hill_49 rfl (lv_at hl 3 rfl) ?_
  refine lv_iload_n hx hb dX6_hill_50 rfl (lv_at hl 4 rfl) ?_
  refine ast_N (x := hh) hx hb hK hP hD hS 1 0 rfl rfl ki rfl (by omega) (Nat.le_of_ble_eq_true rfl) dX6_hill_51 (fun H locs hP hD hS => ?_)
  have hP : va_P D vwCl [(h0, .inr (6, [.int (nI 0), .int (nI mi), .int (nI me), .int (nI dp), .int (bI up), .int (nI dn), .ref ma, .ref mx, .ref mh, .ref mg, .ref mc, .ref mo, .ref mr, .ref mf, .long wp, .long wl, .int (nI ru), .int (nI sm), .ref mk, .ref ml])), (mh, .inl (cI, 20, .inl (nA (uN HI ki hh))))] H := hP
  have hD : va_D A [(h0, .inr (6, [.int (nI 0), .int (nI mi), .int (nI me), .int (nI dp), .int (bI up), .int (nI dn), .ref ma, .ref mx, .ref mh, .ref mg, .ref mc, .ref mo, .ref mr, .ref mf, .long wp, .long wl, .int (nI ru), .int (nI sm), .ref mk, .ref ml])), (mh, .inl (cI, 20, .inl (nA (uN HI ki hh))))] := hD
  refine lv_iload hx hb dX6_hill_52 (lv_at hl 0 rfl) ?_
  exact fin_i hx hb hr hlocks hP hD hS (rfl) dX6_hill_54
set_option maxHeartbeats 4000000 in
set_option maxRecDepth 100000 in
theorem c_X6_drift (l : Launch) (D : va_G) (cI cJ cZ : ClassId) (h0 : Nat) (thr : Nat) (mi : Nat) (me : Nat) (dp : Nat) (up : Bool) (dn : Nat) (ma : Nat) (mx : Nat) (mh : Nat) (mg : Nat) (mc : Nat) (mo : Nat) (mr : Nat) (mf : Nat) (mk : Nat) (ml : Nat) (wp : Int64) (wl : Int64) (ru : Nat) (sm : Nat) (pp : Nat) (bb : Bool) (hpp : pp ≤ 60) (sz : Nat) : Met l yX6_drift wsX6_drift ({ frames := 1, cells := 0, slots := 0, locals := 22 } : Room) (va_Pc [.ref h0, .int (nI pp), .int (bI bb)] (mPre D cI cJ cZ [(h0, .inr (6, [.int (nI thr), .int (nI mi), .int (nI me), .int (nI dp), .int (bI up), .int (nI dn), .ref ma, .ref mx, .ref mh, .ref mg, .ref mc, .ref mo, .ref mr, .ref mf, .long wp, .long wl, .int (nI ru), .int (nI sm), .ref mk, .ref ml]))] sz)) (Qi9 D (va_A [(h0, .inr (6, [.int (nI thr), .int (nI mi), .int (nI me), .int (nI dp), .int (bI up), .int (nI dn), .ref ma, .ref mx, .ref mh, .ref mg, .ref mc, .ref mo, .ref mr, .ref mf, .long wp, .long wl, .int (nI ru), .int (nI sm), .ref mk, .ref ml]))] sz) [(h0, .inr (6, [.int (nI 0), .int (nI mi), .int (nI me), .int (nI pp), .int (bI bb), .int (nI dn), .ref ma, .ref mx, .ref mh, .ref mg, .ref mc, .ref mo, .ref mr, .ref mf, .long wp, .long wl, .int (nI ru), .int (nI sm), .ref mk, .ref ml]))] (nI dp)) 0 0 (va_A [(h0, .inr (6, [.int (nI thr), .int (nI mi), .int (nI me), .int (nI dp), .int (bI up), .int (nI dn), .ref ma, .ref mx, .ref mh, .ref mg, .ref mc, .ref mo, .ref mr, .ref mf, .long wp, .long wl, .int (nI ru), .int (nI sm), .ref mk, .ref ml]))] sz) := by
  refine Met.ofW (cc := cX6_drift) (maxL := 4) (ret := (some .int)) (by decide) rfl ?_
  intro p e s m args below meth c s₁ B hml hv
  obtain ⟨hargs, hsz, hP, hT, hD0⟩ := hv
  have hx := B.exec
  have hb := B.bytes
  have hr := B.returns
  have hts := atoms_spec (ws := wsX6_drift) B.pre
  have hown : s.vm.findClass RX6 = some m.cls := findClass_of_methodNamed B.named
  have hlocks := B.notSynchronized
  subst hsz
  have hK := hT.1
  have hD := hD0.self (sz := s.heap.size)
  generalize hAe : va_A [(h0, .inr (6, [.int (nI thr), .int (nI mi), .int (nI me), .int (nI dp), .int (bI up), .int (nI dn), .ref ma, .ref mx, .ref mh, .ref mg, .ref mc, .ref mo, .ref mr, .ref mf, .long wp, .long wl, .int (nI ru), .int (nI sm), .ref mk, .ref ml]))] s.heap.size = A at hD ⊢
  have hA : ∀ q : Nat, s.heap.size ≤ q → A q := fun q h => by rw [← hAe]; exact Or.inr h
  have hS : va_S A s.heap s.heap [] := va_S.rf
  obtain ⟨H, hHe⟩ : ∃ H : Heap, H = s.heap := ⟨_, rfl⟩
  have hS : va_S A s.heap H [] := by rw [hHe]; exact va_S.rf
  rw [← hHe] at hP
  suffices K0 : W p l e (headSpec wsX6_drift ({ frames := 1, cells := 0, slots := 0, locals := 22 } : Room)).room s m args below meth c H [] 0 0 (MQ below (Qi9 D A [(h0, .inr (6, [.int (nI 0), .int (nI mi), .int (nI me), .int (nI pp), .int (bI bb), .int (nI dn), .ref ma, .ref mx, .ref mh, .ref mg, .ref mc, .ref mo, .ref mr, .ref mf, .long wp, .long wl, .int (nI ru), .int (nI sm), .ref mk, .ref ml]))] (nI dp)) args s 0 0 A) (entryFrame m args 4) by rw [hHe] at K0; exact K0
  refine W.eq (g2 := entryFrame m ([.ref h0, .int (nI pp), .int (bI bb)] : List Value).toArray 4) (by rw [hargs]) ?_
  have hl := lv_entry ([.ref h0, .int (nI pp), .int (bI bb)]) (n := 4) (Nat.le_of_ble_eq_true rfl)
  rw [lg_entry_eq]
  generalize (lg_sl ([.ref h0, .int (nI pp), .int (bI bb)]) ++ List.replicate (4 - (lg_sl ([.ref h0, .int (nI pp), .int (bI bb)])).length) Slot.unset).toArray = ls at hl ⊢
  have hl : lv_has ls 4 [(0, .ref h0), (1, .int (nI pp)), (2, .int (bI bb))] := hl
  generalize ([] : List Loc) = locs at hS ⊢
  have hinX6 : ∀ w ∈ wsX60, w ∈ wsX6_drift := by decide +kernel
  have hf73 := hts (.fieldLink RX6 73 "BrightbandModel" "period" "I") (by decide +kernel)
  have hf76 := hts (.fieldLink RX6 76 "BrightbandModel" "isUp" "Z") (by decide +kernel)
  refine lv_aload_n hx hb dX6_drift_0 rfl (lv_at hl 0 rfl) ?_
  refine lv_iload_n hx hb dX6_drift_1 rfl (lv_at hl 1 rfl) ?_
  refine lv_iconst (v := nI 0) hx hb dX6_drift_2 (by decide) ?_
  refine lv_bipush (v := nI 60) hx hb dX6_drift_3 (by decide) ?_
  refine cr_i (wc := []) (w1 := []) (ws2 := [(h0, .inr (6, [.int (nI thr), .int (nI mi), .int (nI me), .int (nI dp), .int (bI up), .int (nI dn), .ref ma, .ref mx, .ref mh, .ref mg, .ref mc, .ref mo, .ref mr, .ref mf, .long wp, .long wl, .int (nI ru), .int (nI sm), .ref mk, .ref ml]))]) hP hD hS hA [] rfl rfl rfl (va_runS (As := [.int (nI pp), .int (nI 0), .int (nI 60)]) (rest := [.ref h0]) ⟨hx, hb, hml, hown, hts⟩ (c_X6_in_T l D cI cJ cZ pp 0 60 (by omega) (by omega) (by omega) H.size) (va_cwS 3 hts gX6_drift_X6_in rfl rfl rfl (by decide +kernel) ⟨Nat.le_of_ble_eq_true rfl, Nat.le_of_ble_eq_true rfl⟩) (pvS hT hP hD [] rfl rfl) rfl rfl hl.1 rfl (lv_room (Nat.le_of_ble_eq_true rfl)) dX6_drift_5 ⟨Nat.zero_le _, Nat.zero_le _⟩) (fun H locs hP hD hS => ?_)
  refine cb_eq (tgt := 15) hx hb dX6_drift_8 (by decide) (fun c_8 => absurd c_8 (by decide)) (fun c_8 => ?_)
  refine lv_iconst (v := nI 0) hx hb dX6_drift_11 (by decide) ?_
  refine lv_goto (tgt := 16) hx hb dX6_drift_12 (by decide) ?_
  refine cr_i (wc := [(h0, .inr (6, [.int (nI thr), .int (nI mi), .int (nI me), .int (nI dp), .int (bI up), .int (nI dn), .ref ma, .ref mx, .ref mh, .ref mg, .ref mc, .ref mo, .ref mr, .ref mf, .long wp, .long wl, .int (nI ru), .int (nI sm), .ref mk, .ref ml]))]) (w1 := [(h0, .inr (6, [.int (nI 0), .int (nI mi), .int (nI me), .int (nI dp), .int (bI up), .int (nI dn), .ref ma, .ref mx, .ref mh, .ref mg, .ref mc, .ref mo, .ref mr, .ref mf, .long wp, .long wl, .int (nI ru), .int (nI sm), .ref mk, .ref ml]))]) (ws2 := [(h0, .inr (6, [.int (nI 0), .int (nI mi), .int (nI me), .int (nI dp), .int (bI up), .int (nI dn), .ref ma, .ref mx, .ref mh, .ref mg, .ref mc, .ref mo, .ref mr, .ref mf, .long wp, .long wl, .int (nI ru), .int (nI sm), .ref mk, .ref ml]))]) hP hD hS hA [0] rfl rfl rfl (va_runV (As := [.int (nI 0)]) (rest := []) ⟨hx, hb, hml, hown, hts⟩ (c_X6_goesWell_ok l D cI cJ cZ h0 thr mi me dp up dn ma mx mh mg mc mo mr mf mk ml wp wl ru sm H.size) (cwV 1 hts gX6_drift_X6_goesWell rfl rfl rfl (by decide +kernel) ⟨Nat.le_of_ble_eq_true rfl, Nat.le_of_ble_eq_true rfl⟩) (pvV hT hP hD [0] rfl rfl 0 rfl rfl) rfl rfl hl.1 rfl (lv_room (Nat.le_of_ble_eq_true rfl)) dX6_drift_16 ⟨Nat.zero_le _, Nat.zero_le _⟩) (fun H locs hP hD hS => ?_)
  refine cb_ne (tgt := 24) hx hb dX6_drift_19 (by decide) (fun c_19 => ?_) (fun c_19 => absurd c_19 (by decide))
  refine lv_aload_n hx hb dX6_drift_24 rfl (lv_at hl 0 rfl) ?_
  refine va_get (D := D) (ci := 6) (v := .int (nI dp)) (C := RX6) (T := TX6) (N := 20) hx hb hts hinX6 hown hK hP 0 rfl rfl 3 (by decide) hf73 (fun _ h9 => h9) rfl dX6_drift_25 ?_
  refine lv_istore_n (lv' := [(3, .int (nI dp)), (0, .ref h0), (1, .int (nI pp)), (2, .int (bI bb))]) hx hb dX6_drift_28 rfl hl (by decide) rfl (fun ls hl => ?_)
  refine lv_aload_n hx hb dX6_drift_29 rfl (lv_at hl 1 rfl) ?_
  refine lv_iload_n hx hb dX6_drift_30 rfl (lv_at hl 2 rfl) ?_
  refine va_put (D := D) (ci := 6) (v := .int (nI pp)) (ty := .int) (C := RX6) (T := TX6) (N := 20) hx hb hts hinX6 tyX6 tyX6_ok nmX6 hown hK hP hD hS 0 rfl rfl 3 (by decide) hf73 (fun _ h9 => h9) rfl (by decide +kernel) rfl rfl (Nat.le_of_ble_eq_true rfl) dX6_drift_31 (fun H locs hP hD hS => ?_)
  have hP : va_P D vwCl [(h0, .inr (6, [.int (nI 0), .int (nI mi), .int (nI me), .int (nI pp), .int (bI up), .int (nI dn), .ref ma, .ref mx, .ref mh, .ref mg, .ref mc, .ref mo, .ref mr, .ref mf, .long wp, .long wl, .int (nI ru), .int (nI sm), .ref mk, .ref ml]))] H := hP
  have hD : va_D A [(h0, .inr (6, [.int (nI 0), .int (nI mi), .int (nI me), .int (nI pp), .int (bI up), .int (nI dn), .ref ma, .ref mx, .ref mh, .ref mg, .ref mc, .ref mo, .ref mr, .ref mf, .long wp, .long wl, .int (nI ru), .int (nI sm), .ref mk, .ref ml]))] := hD
  refine lv_aload_n hx hb dX6_drift_34 rfl (lv_at hl 1 rfl) ?_
  refine lv_iload_n hx hb dX6_drift_35 rfl (lv_at hl 3 rfl) ?_
  refine va_put (D := D) (ci := 6) (v := .int (bI bb)) (ty := .boolean) (C := RX6) (T := TX6) (N := 20) hx hb hts hinX6 tyX6 tyX6_ok nmX6 hown hK hP hD hS 0 rfl rfl 4 (by decide) hf76 (fun _ h9 => h9) rfl (by decide +kernel) (bI_nar _) (bI_fit _) (Nat.le_of_ble_eq_true rfl) dX6_drift_36 (fun H locs hP hD hS => ?_)
  have hP : va_P D vwCl [(h0, .inr (6, [.int (nI 0), .int (nI mi), .int (nI me), .int (nI pp), .int (bI bb), .int (nI dn), .ref ma, .ref mx, .ref mh, .ref mg, .ref mc, .ref mo, .ref mr, .ref mf, .long wp, .long wl, .int (nI ru), .int (nI sm), .ref mk, .ref ml]))] H := hP
  have hD : va_D A [(h0, .inr (6, [.int (nI 0), .int (nI mi), .int (nI me), .int (nI pp), .int (bI bb), .int (nI dn), .ref ma, .ref mx, .ref mh, .ref mg, .ref mc, .ref mo, .ref mr, .ref mf, .long wp, .long wl, .int (nI ru), .int (nI sm), .ref mk, .ref ml]))] := hD
  refine lv_iload_n hx hb dX6_drift_39 rfl (lv_at hl 0 rfl) ?_
  exact fin_i hx hb hr hlocks hP hD hS (rfl) dX6_drift_40
set_option maxHeartbeats 4000000 in
set_option maxRecDepth 100000 in
theorem c_X6_gauge_true (l : Launch) (D : va_G) (cI cJ cZ : ClassId) (h0 : Nat) (thr : Nat) (mi : Nat) (me : Nat) (dp : Nat) (up : Bool) (dn : Nat) (ma : Nat) (mx : Nat) (mh : Nat) (mg : Nat) (mc : Nat) (mo : Nat) (mr : Nat) (mf : Nat) (mk : Nat) (ml : Nat) (wp : Int64) (wl : Int64) (ru : Nat) (sm : Nat) (UP : Nat → Bool) (CL : Nat → Bool) (CO : Nat → Int64) (ki : Nat) (hki : ki < 20) (sz : Nat) : Met l yX6_gauge wsX6_gauge ({ frames := 2, cells := 0, slots := 0, locals := 42 } : Room) (va_Pc [.ref h0, .int (nI ki), .int (bI true)] (mPre D cI cJ cZ [(h0, .inr (6, [.int (nI thr), .int (nI mi), .int (nI me), .int (nI dp), .int (bI up), .int (nI dn), .ref ma, .ref mx, .ref mh, .ref mg, .ref mc, .ref mo, .ref mr, .ref mf, .long wp, .long wl, .int (nI ru), .int (nI sm), .ref mk, .ref ml])), (mg, .inl (cZ, 20, .inl (bA UP))), (mc, .inl (cZ, 20, .inl (bA CL))), (mo, .inl (cJ, 20, .inr (.inl CO)))] sz)) (Qi9 D (va_A [(h0, .inr (6, [.int (nI thr), .int (nI mi), .int (nI me), .int (nI dp), .int (bI up), .int (nI dn), .ref ma, .ref mx, .ref mh, .ref mg, .ref mc, .ref mo, .ref mr, .ref mf, .long wp, .long wl, .int (nI ru), .int (nI sm), .ref mk, .ref ml])), (mg, .inl (cZ, 20, .inl (bA UP))), (mc, .inl (cZ, 20, .inl (bA CL))), (mo, .inl (cJ, 20, .inr (.inl CO)))] sz) [(h0, .inr (6, [.int (nI 0), .int (nI mi), .int (nI me), .int (nI dp), .int (bI up), .int (nI dn), .ref ma, .ref mx, .ref mh, .ref mg, .ref mc, .ref mo, .ref mr, .ref mf, .long wp, .long wl, .int (nI ru), .int (nI sm), .ref mk, .ref ml])), (mg, .inl (cZ, 20, .inl (bA (uN UP ki true)))), (mc, .inl (cZ, 20, .inl (bA (uN CL ki (CL ki))))), (mo, .inl (cJ, 20, .inr (.inl (uN CO ki (CO ki)))))] (bI (UP ki))) 0 0 (va_A [(h0, .inr (6, [.int (nI thr), .int (nI mi), .int (nI me), .int (nI dp), .int (bI up), .int (nI dn), .ref ma, .ref mx, .ref mh, .ref mg, .ref mc, .ref mo, .ref mr, .ref mf, .long wp, .long wl, .int (nI ru), .int (nI sm), .ref mk, .ref ml])), (mg, .inl (cZ, 20, .inl (bA UP))), (mc, .inl (cZ, 20, .inl (bA CL))), (mo, .inl (cJ, 20, .inr (.inl CO)))] sz) := by
  refine Met.ofW (cc := cX6_gauge) (maxL := 4) (ret := (some .boolean)) (by decide) rfl ?_
  intro p e s m args below meth c s₁ B hml hv
  obtain ⟨hargs, hsz, hP, hT, hD0⟩ := hv
  have hx := B.exec
  have hb := B.bytes
  have hr := B.returns
  have hts := atoms_spec (ws := wsX6_gauge) B.pre
  have hown : s.vm.findClass RX6 = some m.cls := findClass_of_methodNamed B.named
  have hlocks := B.notSynchronized
  subst hsz
  have hK := hT.1
  have hD := hD0.self (sz := s.heap.size)
  generalize hAe : va_A [(h0, .inr (6, [.int (nI thr), .int (nI mi), .int (nI me), .int (nI dp), .int (bI up), .int (nI dn), .ref ma, .ref mx, .ref mh, .ref mg, .ref mc, .ref mo, .ref mr, .ref mf, .long wp, .long wl, .int (nI ru), .int (nI sm), .ref mk, .ref ml])), (mg, .inl (cZ, 20, .inl (bA UP))), (mc, .inl (cZ, 20, .inl (bA CL))), (mo, .inl (cJ, 20, .inr (.inl CO)))] s.heap.size = A at hD ⊢
  have hA : ∀ q : Nat, s.heap.size ≤ q → A q := fun q h => by rw [← hAe]; exact Or.inr h
  have hS : va_S A s.heap s.heap [] := va_S.rf
  obtain ⟨H, hHe⟩ : ∃ H : Heap, H = s.heap := ⟨_, rfl⟩
  have hS : va_S A s.heap H [] := by rw [hHe]; exact va_S.rf
  rw [← hHe] at hP
  suffices K0 : W p l e (headSpec wsX6_gauge ({ frames := 2, cells := 0, slots := 0, locals := 42 } : Room)).room s m args below meth c H [] 0 0 (MQ below (Qi9 D A [(h0, .inr (6, [.int (nI 0), .int (nI mi), .int (nI me), .int (nI dp), .int (bI up), .int (nI dn), .ref ma, .ref mx, .ref mh, .ref mg, .ref mc, .ref mo, .ref mr, .ref mf, .long wp, .long wl, .int (nI ru), .int (nI sm), .ref mk, .ref ml])), (mg, .inl (cZ, 20, .inl (bA (uN UP ki true)))), (mc, .inl (cZ, 20, .inl (bA (uN CL ki (CL ki))))), (mo, .inl (cJ, 20, .inr (.inl (uN CO ki (CO ki)))))] (bI (UP ki))) args s 0 0 A) (entryFrame m args 4) by rw [hHe] at K0; exact K0
  refine W.eq (g2 := entryFrame m ([.ref h0, .int (nI ki), .int (bI true)] : List Value).toArray 4) (by rw [hargs]) ?_
  have hl := lv_entry ([.ref h0, .int (nI ki), .int (bI true)]) (n := 4) (Nat.le_of_ble_eq_true rfl)
  rw [lg_entry_eq]
  generalize (lg_sl ([.ref h0, .int (nI ki), .int (bI true)]) ++ List.replicate (4 - (lg_sl ([.ref h0, .int (nI ki), .int (bI true)])).length) Slot.unset).toArray = ls at hl ⊢
  have hl : lv_has ls 4 [(0, .ref h0), (1, .int (nI ki)), (2, .int (bI true))] := hl
  generalize ([] : List Loc) = locs at hS ⊢
  have hinX6 : ∀ w ∈ wsX60, w ∈ wsX6_gauge := by decide +kernel
  have hf23 := hts (.fieldLink RX6 23 "BrightbandModel" "hasGauge" "[Z") (by decide +kernel)
  have hf27 := hts (.fieldLink RX6 27 "BrightbandModel" "isClogged" "[Z") (by decide +kernel)
  have hf30 := hts (.fieldLink RX6 30 "BrightbandModel" "collected" "[J") (by decide +kernel)
  refine lv_aload_n hx hb dX6_gauge_0 rfl (lv_at hl 0 rfl) ?_
  refine lv_iload_n hx hb dX6_gauge_1 rfl (lv_at hl 1 rfl) ?_
  refine cr_i (wc := []) (w1 := []) (ws2 := [(h0, .inr (6, [.int (nI thr), .int (nI mi), .int (nI me), .int (nI dp), .int (bI up), .int (nI dn), .ref ma, .ref mx, .ref mh, .ref mg, .ref mc, .ref mo, .ref mr, .ref mf, .long wp, .long wl, .int (nI ru), .int (nI sm), .ref mk, .ref ml])), (mg, .inl (cZ, 20, .inl (bA UP))), (mc, .inl (cZ, 20, .inl (bA CL))), (mo, .inl (cJ, 20, .inr (.inl CO)))]) hP hD hS hA [] rfl rfl rfl (va_runS (As := [.int (nI ki)]) (rest := [.ref h0]) ⟨hx, hb, hml, hown, hts⟩ (c_X6_isPlace_T l D cI cJ cZ ki (by omega) H.size) (va_cwS 1 hts gX6_gauge_X6_isPlace rfl rfl rfl (by decide +kernel) ⟨Nat.le_of_ble_eq_true rfl, Nat.le_of_ble_eq_true rfl⟩) (pvS hT hP hD [] rfl rfl) rfl rfl hl.1 rfl (lv_room (Nat.le_of_ble_eq_true rfl)) dX6_gauge_2 ⟨Nat.zero_le _, Nat.zero_le _⟩) (fun H locs hP hD hS => ?_)
  refine cb_eq (tgt := 12) hx hb dX6_gauge_5 (by decide) (fun c_5 => absurd c_5 (by decide)) (fun c_5 => ?_)
  refine lv_iconst (v := nI 0) hx hb dX6_gauge_8 (by decide) ?_
  refine lv_goto (tgt := 13) hx hb dX6_gauge_9 (by decide) ?_
  refine cr_i (wc := [(h0, .inr (6, [.int (nI thr), .int (nI mi), .int (nI me), .int (nI dp), .int (bI up), .int (nI dn), .ref ma, .ref mx, .ref mh, .ref mg, .ref mc, .ref mo, .ref mr, .ref mf, .long wp, .long wl, .int (nI ru), .int (nI sm), .ref mk, .ref ml]))]) (w1 := [(h0, .inr (6, [.int (nI 0), .int (nI mi), .int (nI me), .int (nI dp), .int (bI up), .int (nI dn), .ref ma, .ref mx, .ref mh, .ref mg, .ref mc, .ref mo, .ref mr, .ref mf, .long wp, .long wl, .int (nI ru), .int (nI sm), .ref mk, .ref ml]))]) (ws2 := [(h0, .inr (6, [.int (nI 0), .int (nI mi), .int (nI me), .int (nI dp), .int (bI up), .int (nI dn), .ref ma, .ref mx, .ref mh, .ref mg, .ref mc, .ref mo, .ref mr, .ref mf, .long wp, .long wl, .int (nI ru), .int (nI sm), .ref mk, .ref ml])), (mg, .inl (cZ, 20, .inl (bA UP))), (mc, .inl (cZ, 20, .inl (bA CL))), (mo, .inl (cJ, 20, .inr (.inl CO)))]) hP hD hS hA [0] rfl rfl rfl (va_runV (As := [.int (nI 0)]) (rest := []) ⟨hx, hb, hml, hown, hts⟩ (c_X6_goesWell_ok l D cI cJ cZ h0 thr mi me dp up dn ma mx mh mg mc mo mr mf mk ml wp wl ru sm H.size) (cwV 1 hts gX6_gauge_X6_goesWell rfl rfl rfl (by decide +kernel) ⟨Nat.le_of_ble_eq_true rfl, Nat.le_of_ble_eq_true rfl⟩) (pvV hT hP hD [0] rfl rfl 0 rfl rfl) rfl rfl hl.1 rfl (lv_room (Nat.le_of_ble_eq_true rfl)) dX6_gauge_13 ⟨Nat.zero_le _, Nat.zero_le _⟩) (fun H locs hP hD hS => ?_)
  refine cb_ne (tgt := 21) hx hb dX6_gauge_16 (by decide) (fun c_16 => ?_) (fun c_16 => absurd c_16 (by decide))
  refine lv_aload_n hx hb dX6_gauge_21 rfl (lv_at hl 0 rfl) ?_
  refine va_get (D := D) (ci := 6) (v := .ref mg) (C := RX6) (T := TX6) (N := 20) hx hb hts hinX6 hown hK hP 0 rfl rfl 9 (by decide) hf23 (fun _ h9 => h9) rfl dX6_gauge_22 ?_
  refine lv_iload_n hx hb dX6_gauge_25 rfl (lv_at hl 1 rfl) ?_
  refine ald_B hx hb hK hP 1 2 rfl rfl ki rfl (by omega) (Nat.le_of_ble_eq_true rfl) dX6_gauge_26 ?_
  refine lv_istore_n (lv' := [(3, .int (bI (UP ki))), (0, .ref h0), (1, .int (nI ki)), (2, .int (bI true))]) hx hb dX6_gauge_27 rfl hl (by decide) rfl (fun ls hl => ?_)
  refine lv_aload_n hx hb dX6_gauge_28 rfl (lv_at hl 1 rfl) ?_
  refine va_get (D := D) (ci := 6) (v := .ref mg) (C := RX6) (T := TX6) (N := 20) hx hb hts hinX6 hown hK hP 0 rfl rfl 9 (by decide) hf23 (fun _ h9 => h9) rfl dX6_gauge_29 ?_
  refine lv_iload_n hx hb dX6_gauge_32 rfl (lv_at hl 2 rfl) ?_
  refine lv_iload_n hx hb dX6_gauge_33 rfl (lv_at hl 3 rfl) ?_
  refine ast_B (x := true) hx hb hK hP hD hS 1 2 rfl rfl ki rfl (by omega) (Nat.le_of_ble_eq_true rfl) dX6_gauge_34 (fun H locs hP hD hS => ?_)
  have hP : va_P D vwCl [(h0, .inr (6, [.int (nI 0), .int (nI mi), .int (nI me), .int (nI dp), .int (bI up), .int (nI dn), .ref ma, .ref mx, .ref mh, .ref mg, .ref mc, .ref mo, .ref mr, .ref mf, .long wp, .long wl, .int (nI ru), .int (nI sm), .ref mk, .ref ml])), (mg, .inl (cZ, 20, .inl (bA (uN UP ki true)))), (mc, .inl (cZ, 20, .inl (bA CL))), (mo, .inl (cJ, 20, .inr (.inl CO)))] H := hP
  have hD : va_D A [(h0, .inr (6, [.int (nI 0), .int (nI mi), .int (nI me), .int (nI dp), .int (bI up), .int (nI dn), .ref ma, .ref mx, .ref mh, .ref mg, .ref mc, .ref mo, .ref mr, .ref mf, .long wp, .long wl, .int (nI ru), .int (nI sm), .ref mk, .ref ml])), (mg, .inl (cZ, 20, .inl (bA (uN UP ki true)))), (mc, .inl (cZ, 20, .inl (bA CL))), (mo, .inl (cJ, 20, .inr (.inl CO)))] := hD
  refine lv_aload_n hx hb dX6_gauge_35 rfl (lv_at hl 1 rfl) ?_
  refine va_get (D := D) (ci := 6) (v := .ref mc) (C := RX6) (T := TX6) (N := 20) hx hb hts hinX6 hown hK hP 0 rfl rfl 10 (by decide) hf27 (fun _ h9 => h9) rfl dX6_gauge_36 ?_
  refine lv_iload_n hx hb dX6_gauge_39 rfl (lv_at hl 2 rfl) ?_
  refine lv_iload_n hx hb dX6_gauge_40 rfl (lv_at hl 3 rfl) ?_
  refine cb_eq (tgt := 57) hx hb dX6_gauge_41 (by decide) (fun c_41 => absurd c_41 (by decide)) (fun c_41 => ?_)
  refine lv_aload_n hx hb dX6_gauge_44 rfl (lv_at hl 1 rfl) ?_
  refine va_get (D := D) (ci := 6) (v := .ref mc) (C := RX6) (T := TX6) (N := 20) hx hb hts hinX6 hown hK hP 0 rfl rfl 10 (by decide) hf27 (fun _ h9 => h9) rfl dX6_gauge_45 ?_
  refine lv_iload_n hx hb dX6_gauge_48 rfl (lv_at hl 2 rfl) ?_
  refine ald_B hx hb hK hP 2 2 rfl rfl ki rfl (by omega) (Nat.le_of_ble_eq_true rfl) dX6_gauge_49 ?_
  refine cb_eq (tgt := 57) hx hb dX6_gauge_50 (by decide) (fun c_50 => ?_) (fun c_50 => ?_)
  · refine lv_iconst (v := nI 0) hx hb dX6_gauge_57 (by decide) ?_
    refine ast_B (x := false) hx hb hK hP hD hS 2 2 rfl rfl ki rfl (by omega) (Nat.le_of_ble_eq_true rfl) dX6_gauge_58 (fun H locs hP hD hS => ?_)
    have hP : va_P D vwCl [(h0, .inr (6, [.int (nI 0), .int (nI mi), .int (nI me), .int (nI dp), .int (bI up), .int (nI dn), .ref ma, .ref mx, .ref mh, .ref mg, .ref mc, .ref mo, .ref mr, .ref mf, .long wp, .long wl, .int (nI ru), .int (nI sm), .ref mk, .ref ml])), (mg, .inl (cZ, 20, .inl (bA (uN UP ki true)))), (mc, .inl (cZ, 20, .inl (bA (uN CL ki false)))), (mo, .inl (cJ, 20, .inr (.inl CO)))] H := hP
    have hD : va_D A [(h0, .inr (6, [.int (nI 0), .int (nI mi), .int (nI me), .int (nI dp), .int (bI up), .int (nI dn), .ref ma, .ref mx, .ref mh, .ref mg, .ref mc, .ref mo, .ref mr, .ref mf, .long wp, .long wl, .int (nI ru), .int (nI sm), .ref mk, .ref ml])), (mg, .inl (cZ, 20, .inl (bA (uN UP ki true)))), (mc, .inl (cZ, 20, .inl (bA (uN CL ki false)))), (mo, .inl (cJ, 20, .inr (.inl CO)))] := hD
    refine lv_aload_n hx hb dX6_gauge_59 rfl (lv_at hl 1 rfl) ?_
    refine va_get (D := D) (ci := 6) (v := .ref mo) (C := RX6) (T := TX6) (N := 20) hx hb hts hinX6 hown hK hP 0 rfl rfl 11 (by decide) hf30 (fun _ h9 => h9) rfl dX6_gauge_60 ?_
    refine lv_iload_n hx hb dX6_gauge_63 rfl (lv_at hl 2 rfl) ?_
    refine lv_iload_n hx hb dX6_gauge_64 rfl (lv_at hl 3 rfl) ?_
    refine cb_eq (tgt := 77) hx hb dX6_gauge_65 (by decide) (fun c_65 => absurd c_65 (by decide)) (fun c_65 => ?_)
    refine lv_aload_n hx hb dX6_gauge_68 rfl (lv_at hl 1 rfl) ?_
    refine va_get (D := D) (ci := 6) (v := .ref mo) (C := RX6) (T := TX6) (N := 20) hx hb hts hinX6 hown hK hP 0 rfl rfl 11 (by decide) hf30 (fun _ h9 => h9) rfl dX6_gauge_69 ?_
    refine lv_iload_n hx hb dX6_gauge_72 rfl (lv_at hl 2 rfl) ?_
    refine ald_L hx hb hK hP 3 1 rfl rfl ki rfl (by omega) (Nat.le_of_ble_eq_true rfl) dX6_gauge_73 ?_
    refine lv_goto (tgt := 78) hx hb dX6_gauge_74 (by decide) ?_
    refine ast_L (x := CO ki) hx hb hK hP hD hS 3 1 rfl rfl ki rfl (by omega) (Nat.le_of_ble_eq_true rfl) dX6_gauge_78 (fun H locs hP hD hS => ?_)
    have hP : va_P D vwCl [(h0, .inr (6, [.int (nI 0), .int (nI mi), .int (nI me), .int (nI dp), .int (bI up), .int (nI dn), .ref ma, .ref mx, .ref mh, .ref mg, .ref mc, .ref mo, .ref mr, .ref mf, .long wp, .long wl, .int (nI ru), .int (nI sm), .ref mk, .ref ml])), (mg, .inl (cZ, 20, .inl (bA (uN UP ki true)))), (mc, .inl (cZ, 20, .inl (bA (uN CL ki false)))), (mo, .inl (cJ, 20, .inr (.inl (uN CO ki (CO ki)))))] H := hP
    have hD : va_D A [(h0, .inr (6, [.int (nI 0), .int (nI mi), .int (nI me), .int (nI dp), .int (bI up), .int (nI dn), .ref ma, .ref mx, .ref mh, .ref mg, .ref mc, .ref mo, .ref mr, .ref mf, .long wp, .long wl, .int (nI ru), .int (nI sm), .ref mk, .ref ml])), (mg, .inl (cZ, 20, .inl (bA (uN UP ki true)))), (mc, .inl (cZ, 20, .inl (bA (uN CL ki false)))), (mo, .inl (cJ, 20, .inr (.inl (uN CO ki (CO ki)))))] := hD
    refine lv_iload_n hx hb dX6_gauge_79 rfl (lv_at hl 0 rfl) ?_
    have hwe : ([(h0, .inr (6, [.int (nI 0), .int (nI mi), .int (nI me), .int (nI dp), .int (bI up), .int (nI dn), .ref ma, .ref mx, .ref mh, .ref mg, .ref mc, .ref mo, .ref mr, .ref mf, .long wp, .long wl, .int (nI ru), .int (nI sm), .ref mk, .ref ml])), (mg, .inl (cZ, 20, .inl (bA (uN UP ki true)))), (mc, .inl (cZ, 20, .inl (bA (uN CL ki (CL ki))))), (mo, .inl (cJ, 20, .inr (.inl (uN CO ki (CO ki)))))] : va_W) = [(h0, .inr (6, [.int (nI 0), .int (nI mi), .int (nI me), .int (nI dp), .int (bI up), .int (nI dn), .ref ma, .ref mx, .ref mh, .ref mg, .ref mc, .ref mo, .ref mr, .ref mf, .long wp, .long wl, .int (nI ru), .int (nI sm), .ref mk, .ref ml])), (mg, .inl (cZ, 20, .inl (bA (uN UP ki true)))), (mc, .inl (cZ, 20, .inl (bA (uN CL ki false)))), (mo, .inl (cJ, 20, .inr (.inl (uN CO ki (CO ki)))))] := (by rw [c_50])
    have hP : va_P D vwCl [(h0, .inr (6, [.int (nI 0), .int (nI mi), .int (nI me), .int (nI dp), .int (bI up), .int (nI dn), .ref ma, .ref mx, .ref mh, .ref mg, .ref mc, .ref mo, .ref mr, .ref mf, .long wp, .long wl, .int (nI ru), .int (nI sm), .ref mk, .ref ml])), (mg, .inl (cZ, 20, .inl (bA (uN UP ki true)))), (mc, .inl (cZ, 20, .inl (bA (uN CL ki (CL ki))))), (mo, .inl (cJ, 20, .inr (.inl (uN CO ki (CO ki)))))] H := by rw [hwe]; exact hP
    have hD : va_D A [(h0, .inr (6, [.int (nI 0), .int (nI mi), .int (nI me), .int (nI dp), .int (bI up), .int (nI dn), .ref ma, .ref mx, .ref mh, .ref mg, .ref mc, .ref mo, .ref mr, .ref mf, .long wp, .long wl, .int (nI ru), .int (nI sm), .ref mk, .ref ml])), (mg, .inl (cZ, 20, .inl (bA (uN UP ki true)))), (mc, .inl (cZ, 20, .inl (bA (uN CL ki (CL ki))))), (mo, .inl (cJ, 20, .inr (.inl (uN CO ki (CO ki)))))] := by rw [hwe]; exact hD
    exact fin_z hx hb hr hlocks hP hD hS (rfl) dX6_gauge_80
  · refine lv_iconst (v := nI 1) hx hb dX6_gauge_53 (by decide) ?_
    refine lv_goto (tgt := 58) hx hb dX6_gauge_54 (by decide) ?_
    refine ast_B (x := true) hx hb hK hP hD hS 2 2 rfl rfl ki rfl (by omega) (Nat.le_of_ble_eq_true rfl) dX6_gauge_58 (fun H locs hP hD hS => ?_)
    have hP : va_P D vwCl [(h0, .inr (6, [.int (nI 0), .int (nI mi), .int (nI me), .int (nI dp), .int (bI up), .int (nI dn), .ref ma, .ref mx, .ref mh, .ref mg, .ref mc, .ref mo, .ref mr, .ref mf, .long wp, .long wl, .int (nI ru), .int (nI sm), .ref mk, .ref ml])), (mg, .inl (cZ, 20, .inl (bA (uN UP ki true)))), (mc, .inl (cZ, 20, .inl (bA (uN CL ki true)))), (mo, .inl (cJ, 20, .inr (.inl CO)))] H := hP
    have hD : va_D A [(h0, .inr (6, [.int (nI 0), .int (nI mi), .int (nI me), .int (nI dp), .int (bI up), .int (nI dn), .ref ma, .ref mx, .ref mh, .ref mg, .ref mc, .ref mo, .ref mr, .ref mf, .long wp, .long wl, .int (nI ru), .int (nI sm), .ref mk, .ref ml])), (mg, .inl (cZ, 20, .inl (bA (uN UP ki true)))), (mc, .inl (cZ, 20, .inl (bA (uN CL ki true)))), (mo, .inl (cJ, 20, .inr (.inl CO)))] := hD
    refine lv_aload_n hx hb dX6_gauge_59 rfl (lv_at hl 1 rfl) ?_
    refine va_get (D := D) (ci := 6) (v := .ref mo) (C := RX6) (T := TX6) (N := 20) hx hb hts hinX6 hown hK hP 0 rfl rfl 11 (by decide) hf30 (fun _ h9 => h9) rfl dX6_gauge_60 ?_
    refine lv_iload_n hx hb dX6_gauge_63 rfl (lv_at hl 2 rfl) ?_
    refine lv_iload_n hx hb dX6_gauge_64 rfl (lv_at hl 3 rfl) ?_
    refine cb_eq (tgt := 77) hx hb dX6_gauge_65 (by decide) (fun c_65 => absurd c_65 (by decide)) (fun c_65 => ?_)
    refine lv_aload_n hx hb dX6_gauge_68 rfl (lv_at hl 1 rfl) ?_
    refine va_get (D := D) (ci := 6) (v := .ref mo) (C := RX6) (T := TX6) (N := 20) hx hb hts hinX6 hown hK hP 0 rfl rfl 11 (by decide) hf30 (fun _ h9 => h9) rfl dX6_gauge_69 ?_
    refine lv_iload_n hx hb dX6_gauge_72 rfl (lv_at hl 2 rfl) ?_
    refine ald_L hx hb hK hP 3 1 rfl rfl ki rfl (by omega) (Nat.le_of_ble_eq_true rfl) dX6_gauge_73 ?_
    refine lv_goto (tgt := 78) hx hb dX6_gauge_74 (by decide) ?_
    refine ast_L (x := CO ki) hx hb hK hP hD hS 3 1 rfl rfl ki rfl (by omega) (Nat.le_of_ble_eq_true rfl) dX6_gauge_78 (fun H locs hP hD hS => ?_)
    have hP : va_P D vwCl [(h0, .inr (6, [.int (nI 0), .int (nI mi), .int (nI me), .int (nI dp), .int (bI up), .int (nI dn), .ref ma, .ref mx, .ref mh, .ref mg, .ref mc, .ref mo, .ref mr, .ref mf, .long wp, .long wl, .int (nI ru), .int (nI sm), .ref mk, .ref ml])), (mg, .inl (cZ, 20, .inl (bA (uN UP ki true)))), (mc, .inl (cZ, 20, .inl (bA (uN CL ki true)))), (mo, .inl (cJ, 20, .inr (.inl (uN CO ki (CO ki)))))] H := hP
    have hD : va_D A [(h0, .inr (6, [.int (nI 0), .int (nI mi), .int (nI me), .int (nI dp), .int (bI up), .int (nI dn), .ref ma, .ref mx, .ref mh, .ref mg, .ref mc, .ref mo, .ref mr, .ref mf, .long wp, .long wl, .int (nI ru), .int (nI sm), .ref mk, .ref ml])), (mg, .inl (cZ, 20, .inl (bA (uN UP ki true)))), (mc, .inl (cZ, 20, .inl (bA (uN CL ki true)))), (mo, .inl (cJ, 20, .inr (.inl (uN CO ki (CO ki)))))] := hD
    refine lv_iload_n hx hb dX6_gauge_79 rfl (lv_at hl 0 rfl) ?_
    have hwe : ([(h0, .inr (6, [.int (nI 0), .int (nI mi), .int (nI me), .int (nI dp), .int (bI up), .int (nI dn), .ref ma, .ref mx, .ref mh, .ref mg, .ref mc, .ref mo, .ref mr, .ref mf, .long wp, .long wl, .int (nI ru), .int (nI sm), .ref mk, .ref ml])), (mg, .inl (cZ, 20, .inl (bA (uN UP ki true)))), (mc, .inl (cZ, 20, .inl (bA (uN CL ki (CL ki))))), (mo, .inl (cJ, 20, .inr (.inl (uN CO ki (CO ki)))))] : va_W) = [(h0, .inr (6, [.int (nI 0), .int (nI mi), .int (nI me), .int (nI dp), .int (bI up), .int (nI dn), .ref ma, .ref mx, .ref mh, .ref mg, .ref mc, .ref mo, .ref mr, .ref mf, .long wp, .long wl, .int (nI ru), .int (nI sm), .ref mk, .ref ml])), (mg, .inl (cZ, 20, .inl (bA (uN UP ki true)))), (mc, .inl (cZ, 20, .inl (bA (uN CL ki true)))), (mo, .inl (cJ, 20, .inr (.inl (uN CO ki (CO ki)))))] := (by rw [c_50])
    have hP : va_P D vwCl [(h0, .inr (6, [.int (nI 0), .int (nI mi), .int (nI me), .int (nI dp), .int (bI up), .int (nI dn), .ref ma, .ref mx, .ref mh, .ref mg, .ref mc, .ref mo, .ref mr, .ref mf, .long wp, .long wl, .int (nI ru), .int (nI sm), .ref mk, .ref ml])), (mg, .inl (cZ, 20, .inl (bA (uN UP ki true)))), (mc, .inl (cZ, 20, .inl (bA (uN CL ki (CL ki))))), (mo, .inl (cJ, 20, .inr (.inl (uN CO ki (CO ki)))))] H := by rw [hwe]; exact hP
    have hD : va_D A [(h0, .inr (6, [.int (nI 0), .int (nI mi), .int (nI me), .int (nI dp), .int (bI up), .int (nI dn), .ref ma, .ref mx, .ref mh, .ref mg, .ref mc, .ref mo, .ref mr, .ref mf, .long wp, .long wl, .int (nI ru), .int (nI sm), .ref mk, .ref ml])), (mg, .inl (cZ, 20, .inl (bA (uN UP ki true)))), (mc, .inl (cZ, 20, .inl (bA (uN CL ki (CL ki))))), (mo, .inl (cJ, 20, .inr (.inl (uN CO ki (CO ki)))))] := by rw [hwe]; exact hD
    exact fin_z hx hb hr hlocks hP hD hS (rfl) dX6_gauge_80
set_option maxHeartbeats 4000000 in
set_option maxRecDepth 100000 in
theorem c_X6_gauge_false (l : Launch) (D : va_G) (cI cJ cZ : ClassId) (h0 : Nat) (thr : Nat) (mi : Nat) (me : Nat) (dp : Nat) (up : Bool) (dn : Nat) (ma : Nat) (mx : Nat) (mh : Nat) (mg : Nat) (mc : Nat) (mo : Nat) (mr : Nat) (mf : Nat) (mk : Nat) (ml : Nat) (wp : Int64) (wl : Int64) (ru : Nat) (sm : Nat) (UP : Nat → Bool) (CL : Nat → Bool) (CO : Nat → Int64) (ki : Nat) (hki : ki < 20) (sz : Nat) : Met l yX6_gauge wsX6_gauge ({ frames := 2, cells := 0, slots := 0, locals := 42 } : Room) (va_Pc [.ref h0, .int (nI ki), .int (bI false)] (mPre D cI cJ cZ [(h0, .inr (6, [.int (nI thr), .int (nI mi), .int (nI me), .int (nI dp), .int (bI up), .int (nI dn), .ref ma, .ref mx, .ref mh, .ref mg, .ref mc, .ref mo, .ref mr, .ref mf, .long wp, .long wl, .int (nI ru), .int (nI sm), .ref mk, .ref ml])), (mg, .inl (cZ, 20, .inl (bA UP))), (mc, .inl (cZ, 20, .inl (bA CL))), (mo, .inl (cJ, 20, .inr (.inl CO)))] sz)) (Qi9 D (va_A [(h0, .inr (6, [.int (nI thr), .int (nI mi), .int (nI me), .int (nI dp), .int (bI up), .int (nI dn), .ref ma, .ref mx, .ref mh, .ref mg, .ref mc, .ref mo, .ref mr, .ref mf, .long wp, .long wl, .int (nI ru), .int (nI sm), .ref mk, .ref ml])), (mg, .inl (cZ, 20, .inl (bA UP))), (mc, .inl (cZ, 20, .inl (bA CL))), (mo, .inl (cJ, 20, .inr (.inl CO)))] sz) [(h0, .inr (6, [.int (nI 0), .int (nI mi), .int (nI me), .int (nI dp), .int (bI up), .int (nI dn), .ref ma, .ref mx, .ref mh, .ref mg, .ref mc, .ref mo, .ref mr, .ref mf, .long wp, .long wl, .int (nI ru), .int (nI sm), .ref mk, .ref ml])), (mg, .inl (cZ, 20, .inl (bA (uN UP ki false)))), (mc, .inl (cZ, 20, .inl (bA (uN CL ki false)))), (mo, .inl (cJ, 20, .inr (.inl (uN CO ki 0))))] (bI (UP ki))) 0 0 (va_A [(h0, .inr (6, [.int (nI thr), .int (nI mi), .int (nI me), .int (nI dp), .int (bI up), .int (nI dn), .ref ma, .ref mx, .ref mh, .ref mg, .ref mc, .ref mo, .ref mr, .ref mf, .long wp, .long wl, .int (nI ru), .int (nI sm), .ref mk, .ref ml])), (mg, .inl (cZ, 20, .inl (bA UP))), (mc, .inl (cZ, 20, .inl (bA CL))), (mo, .inl (cJ, 20, .inr (.inl CO)))] sz) := by
  refine Met.ofW (cc := cX6_gauge) (maxL := 4) (ret := (some .boolean)) (by decide) rfl ?_
  intro p e s m args below meth c s₁ B hml hv
  obtain ⟨hargs, hsz, hP, hT, hD0⟩ := hv
  have hx := B.exec
  have hb := B.bytes
  have hr := B.returns
  have hts := atoms_spec (ws := wsX6_gauge) B.pre
  have hown : s.vm.findClass RX6 = some m.cls := findClass_of_methodNamed B.named
  have hlocks := B.notSynchronized
  subst hsz
  have hK := hT.1
  have hD := hD0.self (sz := s.heap.size)
  generalize hAe : va_A [(h0, .inr (6, [.int (nI thr), .int (nI mi), .int (nI me), .int (nI dp), .int (bI up), .int (nI dn), .ref ma, .ref mx, .ref mh, .ref mg, .ref mc, .ref mo, .ref mr, .ref mf, .long wp, .long wl, .int (nI ru), .int (nI sm), .ref mk, .ref ml])), (mg, .inl (cZ, 20, .inl (bA UP))), (mc, .inl (cZ, 20, .inl (bA CL))), (mo, .inl (cJ, 20, .inr (.inl CO)))] s.heap.size = A at hD ⊢
  have hA : ∀ q : Nat, s.heap.size ≤ q → A q := fun q h => by rw [← hAe]; exact Or.inr h
  have hS : va_S A s.heap s.heap [] := va_S.rf
  obtain ⟨H, hHe⟩ : ∃ H : Heap, H = s.heap := ⟨_, rfl⟩
  have hS : va_S A s.heap H [] := by rw [hHe]; exact va_S.rf
  rw [← hHe] at hP
  suffices K0 : W p l e (headSpec wsX6_gauge ({ frames := 2, cells := 0, slots := 0, locals := 42 } : Room)).room s m args below meth c H [] 0 0 (MQ below (Qi9 D A [(h0, .inr (6, [.int (nI 0), .int (nI mi), .int (nI me), .int (nI dp), .int (bI up), .int (nI dn), .ref ma, .ref mx, .ref mh, .ref mg, .ref mc, .ref mo, .ref mr, .ref mf, .long wp, .long wl, .int (nI ru), .int (nI sm), .ref mk, .ref ml])), (mg, .inl (cZ, 20, .inl (bA (uN UP ki false)))), (mc, .inl (cZ, 20, .inl (bA (uN CL ki false)))), (mo, .inl (cJ, 20, .inr (.inl (uN CO ki 0))))] (bI (UP ki))) args s 0 0 A) (entryFrame m args 4) by rw [hHe] at K0; exact K0
  refine W.eq (g2 := entryFrame m ([.ref h0, .int (nI ki), .int (bI false)] : List Value).toArray 4) (by rw [hargs]) ?_
  have hl := lv_entry ([.ref h0, .int (nI ki), .int (bI false)]) (n := 4) (Nat.le_of_ble_eq_true rfl)
  rw [lg_entry_eq]
  generalize (lg_sl ([.ref h0, .int (nI ki), .int (bI false)]) ++ List.replicate (4 - (lg_sl ([.ref h0, .int (nI ki), .int (bI false)])).length) Slot.unset).toArray = ls at hl ⊢
  have hl : lv_has ls 4 [(0, .ref h0), (1, .int (nI ki)), (2, .int (bI false))] := hl
  generalize ([] : List Loc) = locs at hS ⊢
  have hinX6 : ∀ w ∈ wsX60, w ∈ wsX6_gauge := by decide +kernel
  have hf23 := hts (.fieldLink RX6 23 "BrightbandModel" "hasGauge" "[Z") (by decide +kernel)
  have hf27 := hts (.fieldLink RX6 27 "BrightbandModel" "isClogged" "[Z") (by decide +kernel)
  have hf30 := hts (.fieldLink RX6 30 "BrightbandModel" "collected" "[J") (by decide +kernel)
  refine lv_aload_n hx hb dX6_gauge_0 rfl (lv_at hl 0 rfl) ?_
  refine lv_iload_n hx hb dX6_gauge_1 rfl (lv_at hl 1 rfl) ?_
  refine cr_i (wc := []) (w1 := []) (ws2 := [(h0, .inr (6, [.int (nI thr), .int (nI mi), .int (nI me), .int (nI dp), .int (bI up), .int (nI dn), .ref ma, .ref mx, .ref mh, .ref mg, .ref mc, .ref mo, .ref mr, .ref mf, .long wp, .long wl, .int (nI ru), .int (nI sm), .ref mk, .ref ml])), (mg, .inl (cZ, 20, .inl (bA UP))), (mc, .inl (cZ, 20, .inl (bA CL))), (mo, .inl (cJ, 20, .inr (.inl CO)))]) hP hD hS hA [] rfl rfl rfl (va_runS (As := [.int (nI ki)]) (rest := [.ref h0]) ⟨hx, hb, hml, hown, hts⟩ (c_X6_isPlace_T l D cI cJ cZ ki (by omega) H.size) (va_cwS 1 hts gX6_gauge_X6_isPlace rfl rfl rfl (by decide +kernel) ⟨Nat.le_of_ble_eq_true rfl, Nat.le_of_ble_eq_true rfl⟩) (pvS hT hP hD [] rfl rfl) rfl rfl hl.1 rfl (lv_room (Nat.le_of_ble_eq_true rfl)) dX6_gauge_2 ⟨Nat.zero_le _, Nat.zero_le _⟩) (fun H locs hP hD hS => ?_)
  refine cb_eq (tgt := 12) hx hb dX6_gauge_5 (by decide) (fun c_5 => absurd c_5 (by decide)) (fun c_5 => ?_)
  refine lv_iconst (v := nI 0) hx hb dX6_gauge_8 (by decide) ?_
  refine lv_goto (tgt := 13) hx hb dX6_gauge_9 (by decide) ?_
  refine cr_i (wc := [(h0, .inr (6, [.int (nI thr), .int (nI mi), .int (nI me), .int (nI dp), .int (bI up), .int (nI dn), .ref ma, .ref mx, .ref mh, .ref mg, .ref mc, .ref mo, .ref mr, .ref mf, .long wp, .long wl, .int (nI ru), .int (nI sm), .ref mk, .ref ml]))]) (w1 := [(h0, .inr (6, [.int (nI 0), .int (nI mi), .int (nI me), .int (nI dp), .int (bI up), .int (nI dn), .ref ma, .ref mx, .ref mh, .ref mg, .ref mc, .ref mo, .ref mr, .ref mf, .long wp, .long wl, .int (nI ru), .int (nI sm), .ref mk, .ref ml]))]) (ws2 := [(h0, .inr (6, [.int (nI 0), .int (nI mi), .int (nI me), .int (nI dp), .int (bI up), .int (nI dn), .ref ma, .ref mx, .ref mh, .ref mg, .ref mc, .ref mo, .ref mr, .ref mf, .long wp, .long wl, .int (nI ru), .int (nI sm), .ref mk, .ref ml])), (mg, .inl (cZ, 20, .inl (bA UP))), (mc, .inl (cZ, 20, .inl (bA CL))), (mo, .inl (cJ, 20, .inr (.inl CO)))]) hP hD hS hA [0] rfl rfl rfl (va_runV (As := [.int (nI 0)]) (rest := []) ⟨hx, hb, hml, hown, hts⟩ (c_X6_goesWell_ok l D cI cJ cZ h0 thr mi me dp up dn ma mx mh mg mc mo mr mf mk ml wp wl ru sm H.size) (cwV 1 hts gX6_gauge_X6_goesWell rfl rfl rfl (by decide +kernel) ⟨Nat.le_of_ble_eq_true rfl, Nat.le_of_ble_eq_true rfl⟩) (pvV hT hP hD [0] rfl rfl 0 rfl rfl) rfl rfl hl.1 rfl (lv_room (Nat.le_of_ble_eq_true rfl)) dX6_gauge_13 ⟨Nat.zero_le _, Nat.zero_le _⟩) (fun H locs hP hD hS => ?_)
  refine cb_ne (tgt := 21) hx hb dX6_gauge_16 (by decide) (fun c_16 => ?_) (fun c_16 => absurd c_16 (by decide))
  refine lv_aload_n hx hb dX6_gauge_21 rfl (lv_at hl 0 rfl) ?_
  refine va_get (D := D) (ci := 6) (v := .ref mg) (C := RX6) (T := TX6) (N := 20) hx hb hts hinX6 hown hK hP 0 rfl rfl 9 (by decide) hf23 (fun _ h9 => h9) rfl dX6_gauge_22 ?_
  refine lv_iload_n hx hb dX6_gauge_25 rfl (lv_at hl 1 rfl) ?_
  refine ald_B hx hb hK hP 1 2 rfl rfl ki rfl (by omega) (Nat.le_of_ble_eq_true rfl) dX6_gauge_26 ?_
  refine lv_istore_n (lv' := [(3, .int (bI (UP ki))), (0, .ref h0), (1, .int (nI ki)), (2, .int (bI false))]) hx hb dX6_gauge_27 rfl hl (by decide) rfl (fun ls hl => ?_)
  refine lv_aload_n hx hb dX6_gauge_28 rfl (lv_at hl 1 rfl) ?_
  refine va_get (D := D) (ci := 6) (v := .ref mg) (C := RX6) (T := TX6) (N := 20) hx hb hts hinX6 hown hK hP 0 rfl rfl 9 (by decide) hf23 (fun _ h9 => h9) rfl dX6_gauge_29 ?_
  refine lv_iload_n hx hb dX6_gauge_32 rfl (lv_at hl 2 rfl) ?_
  refine lv_iload_n hx hb dX6_gauge_33 rfl (lv_at hl 3 rfl) ?_
  refine ast_B (x := false) hx hb hK hP hD hS 1 2 rfl rfl ki rfl (by omega) (Nat.le_of_ble_eq_true rfl) dX6_gauge_34 (fun H locs hP hD hS => ?_)
  have hP : va_P D vwCl [(h0, .inr (6, [.int (nI 0), .int (nI mi), .int (nI me), .int (nI dp), .int (bI up), .int (nI dn), .ref ma, .ref mx, .ref mh, .ref mg, .ref mc, .ref mo, .ref mr, .ref mf, .long wp, .long wl, .int (nI ru), .int (nI sm), .ref mk, .ref ml])), (mg, .inl (cZ, 20, .inl (bA (uN UP ki false)))), (mc, .inl (cZ, 20, .inl (bA CL))), (mo, .inl (cJ, 20, .inr (.inl CO)))] H := hP
  have hD : va_D A [(h0, .inr (6, [.int (nI 0), .int (nI mi), .int (nI me), .int (nI dp), .int (bI up), .int (nI dn), .ref ma, .ref mx, .ref mh, .ref mg, .ref mc, .ref mo, .ref mr, .ref mf, .long wp, .long wl, .int (nI ru), .int (nI sm), .ref mk, .ref ml])), (mg, .inl (cZ, 20, .inl (bA (uN UP ki false)))), (mc, .inl (cZ, 20, .inl (bA CL))), (mo, .inl (cJ, 20, .inr (.inl CO)))] := hD
  refine lv_aload_n hx hb dX6_gauge_35 rfl (lv_at hl 1 rfl) ?_
  refine va_get (D := D) (ci := 6) (v := .ref mc) (C := RX6) (T := TX6) (N := 20) hx hb hts hinX6 hown hK hP 0 rfl rfl 10 (by decide) hf27 (fun _ h9 => h9) rfl dX6_gauge_36 ?_
  refine lv_iload_n hx hb dX6_gauge_39 rfl (lv_at hl 2 rfl) ?_
  refine lv_iload_n hx hb dX6_gauge_40 rfl (lv_at hl 3 rfl) ?_
  refine cb_eq (tgt := 57) hx hb dX6_gauge_41 (by decide) (fun c_41 => ?_) (fun c_41 => absurd c_41 (by decide))
  refine lv_iconst (v := nI 0) hx hb dX6_gauge_57 (by decide) ?_
  refine ast_B (x := false) hx hb hK hP hD hS 2 2 rfl rfl ki rfl (by omega) (Nat.le_of_ble_eq_true rfl) dX6_gauge_58 (fun H locs hP hD hS => ?_)
  have hP : va_P D vwCl [(h0, .inr (6, [.int (nI 0), .int (nI mi), .int (nI me), .int (nI dp), .int (bI up), .int (nI dn), .ref ma, .ref mx, .ref mh, .ref mg, .ref mc, .ref mo, .ref mr, .ref mf, .long wp, .long wl, .int (nI ru), .int (nI sm), .ref mk, .ref ml])), (mg, .inl (cZ, 20, .inl (bA (uN UP ki false)))), (mc, .inl (cZ, 20, .inl (bA (uN CL ki false)))), (mo, .inl (cJ, 20, .inr (.inl CO)))] H := hP
  have hD : va_D A [(h0, .inr (6, [.int (nI 0), .int (nI mi), .int (nI me), .int (nI dp), .int (bI up), .int (nI dn), .ref ma, .ref mx, .ref mh, .ref mg, .ref mc, .ref mo, .ref mr, .ref mf, .long wp, .long wl, .int (nI ru), .int (nI sm), .ref mk, .ref ml])), (mg, .inl (cZ, 20, .inl (bA (uN UP ki false)))), (mc, .inl (cZ, 20, .inl (bA (uN CL ki false)))), (mo, .inl (cJ, 20, .inr (.inl CO)))] := hD
  refine lv_aload_n hx hb dX6_gauge_59 rfl (lv_at hl 1 rfl) ?_
  refine va_get (D := D) (ci := 6) (v := .ref mo) (C := RX6) (T := TX6) (N := 20) hx hb hts hinX6 hown hK hP 0 rfl rfl 11 (by decide) hf30 (fun _ h9 => h9) rfl dX6_gauge_60 ?_
  refine lv_iload_n hx hb dX6_gauge_63 rfl (lv_at hl 2 rfl) ?_
  refine lv_iload_n hx hb dX6_gauge_64 rfl (lv_at hl 3 rfl) ?_
  refine cb_eq (tgt := 77) hx hb dX6_gauge_65 (by decide) (fun c_65 => ?_) (fun c_65 => absurd c_65 (by decide))
  refine lv_lconst (v := 0) hx hb dX6_gauge_77 (by decide) ?_
  refine ast_L (x := 0) hx hb hK hP hD hS 3 1 rfl rfl ki rfl (by omega) (Nat.le_of_ble_eq_true rfl) dX6_gauge_78 (fun H locs hP hD hS => ?_)
  have hP : va_P D vwCl [(h0, .inr (6, [.int (nI 0), .int (nI mi), .int (nI me), .int (nI dp), .int (bI up), .int (nI dn), .ref ma, .ref mx, .ref mh, .ref mg, .ref mc, .ref mo, .ref mr, .ref mf, .long wp, .long wl, .int (nI ru), .int (nI sm), .ref mk, .ref ml])), (mg, .inl (cZ, 20, .inl (bA (uN UP ki false)))), (mc, .inl (cZ, 20, .inl (bA (uN CL ki false)))), (mo, .inl (cJ, 20, .inr (.inl (uN CO ki 0))))] H := hP
  have hD : va_D A [(h0, .inr (6, [.int (nI 0), .int (nI mi), .int (nI me), .int (nI dp), .int (bI up), .int (nI dn), .ref ma, .ref mx, .ref mh, .ref mg, .ref mc, .ref mo, .ref mr, .ref mf, .long wp, .long wl, .int (nI ru), .int (nI sm), .ref mk, .ref ml])), (mg, .inl (cZ, 20, .inl (bA (uN UP ki false)))), (mc, .inl (cZ, 20, .inl (bA (uN CL ki false)))), (mo, .inl (cJ, 20, .inr (.inl (uN CO ki 0))))] := hD
  refine lv_iload_n hx hb dX6_gauge_79 rfl (lv_at hl 0 rfl) ?_
  exact fin_z hx hb hr hlocks hP hD hS (rfl) dX6_gauge_80
set_option maxHeartbeats 4000000 in
set_option maxRecDepth 100000 in
theorem c_X6_clog (l : Launch) (D : va_G) (cI cJ cZ : ClassId) (h0 : Nat) (thr : Nat) (mi : Nat) (me : Nat) (dp : Nat) (up : Bool) (dn : Nat) (ma : Nat) (mx : Nat) (mh : Nat) (mg : Nat) (mc : Nat) (mo : Nat) (mr : Nat) (mf : Nat) (mk : Nat) (ml : Nat) (wp : Int64) (wl : Int64) (ru : Nat) (sm : Nat) (UP : Nat → Bool) (CL : Nat → Bool) (ki : Nat) (bb : Bool) (hki : ki < 20) (hup : UP ki = true) (sz : Nat) : Met l yX6_clog wsX6_clog ({ frames := 2, cells := 0, slots := 0, locals := 42 } : Room) (va_Pc [.ref h0, .int (nI ki), .int (bI bb)] (mPre D cI cJ cZ [(h0, .inr (6, [.int (nI thr), .int (nI mi), .int (nI me), .int (nI dp), .int (bI up), .int (nI dn), .ref ma, .ref mx, .ref mh, .ref mg, .ref mc, .ref mo, .ref mr, .ref mf, .long wp, .long wl, .int (nI ru), .int (nI sm), .ref mk, .ref ml])), (mg, .inl (cZ, 20, .inl (bA UP))), (mc, .inl (cZ, 20, .inl (bA CL)))] sz)) (Qi9 D (va_A [(h0, .inr (6, [.int (nI thr), .int (nI mi), .int (nI me), .int (nI dp), .int (bI up), .int (nI dn), .ref ma, .ref mx, .ref mh, .ref mg, .ref mc, .ref mo, .ref mr, .ref mf, .long wp, .long wl, .int (nI ru), .int (nI sm), .ref mk, .ref ml])), (mg, .inl (cZ, 20, .inl (bA UP))), (mc, .inl (cZ, 20, .inl (bA CL)))] sz) [(h0, .inr (6, [.int (nI 0), .int (nI mi), .int (nI me), .int (nI dp), .int (bI up), .int (nI dn), .ref ma, .ref mx, .ref mh, .ref mg, .ref mc, .ref mo, .ref mr, .ref mf, .long wp, .long wl, .int (nI ru), .int (nI sm), .ref mk, .ref ml])), (mg, .inl (cZ, 20, .inl (bA UP))), (mc, .inl (cZ, 20, .inl (bA (uN CL ki bb))))] (bI (CL ki))) 0 0 (va_A [(h0, .inr (6, [.int (nI thr), .int (nI mi), .int (nI me), .int (nI dp), .int (bI up), .int (nI dn), .ref ma, .ref mx, .ref mh, .ref mg, .ref mc, .ref mo, .ref mr, .ref mf, .long wp, .long wl, .int (nI ru), .int (nI sm), .ref mk, .ref ml])), (mg, .inl (cZ, 20, .inl (bA UP))), (mc, .inl (cZ, 20, .inl (bA CL)))] sz) := by
  refine Met.ofW (cc := cX6_clog) (maxL := 4) (ret := (some .boolean)) (by decide) rfl ?_
  intro p e s m args below meth c s₁ B hml hv
  obtain ⟨hargs, hsz, hP, hT, hD0⟩ := hv
  have hx := B.exec
  have hb := B.bytes
  have hr := B.returns
  have hts := atoms_spec (ws := wsX6_clog) B.pre
  have hown : s.vm.findClass RX6 = some m.cls := findClass_of_methodNamed B.named
  have hlocks := B.notSynchronized
  subst hsz
  have hK := hT.1
  have hD := hD0.self (sz := s.heap.size)
  generalize hAe : va_A [(h0, .inr (6, [.int (nI thr), .int (nI mi), .int (nI me), .int (nI dp), .int (bI up), .int (nI dn), .ref ma, .ref mx, .ref mh, .ref mg, .ref mc, .ref mo, .ref mr, .ref mf, .long wp, .long wl, .int (nI ru), .int (nI sm), .ref mk, .ref ml])), (mg, .inl (cZ, 20, .inl (bA UP))), (mc, .inl (cZ, 20, .inl (bA CL)))] s.heap.size = A at hD ⊢
  have hA : ∀ q : Nat, s.heap.size ≤ q → A q := fun q h => by rw [← hAe]; exact Or.inr h
  have hS : va_S A s.heap s.heap [] := va_S.rf
  obtain ⟨H, hHe⟩ : ∃ H : Heap, H = s.heap := ⟨_, rfl⟩
  have hS : va_S A s.heap H [] := by rw [hHe]; exact va_S.rf
  rw [← hHe] at hP
  suffices K0 : W p l e (headSpec wsX6_clog ({ frames := 2, cells := 0, slots := 0, locals := 42 } : Room)).room s m args below meth c H [] 0 0 (MQ below (Qi9 D A [(h0, .inr (6, [.int (nI 0), .int (nI mi), .int (nI me), .int (nI dp), .int (bI up), .int (nI dn), .ref ma, .ref mx, .ref mh, .ref mg, .ref mc, .ref mo, .ref mr, .ref mf, .long wp, .long wl, .int (nI ru), .int (nI sm), .ref mk, .ref ml])), (mg, .inl (cZ, 20, .inl (bA UP))), (mc, .inl (cZ, 20, .inl (bA (uN CL ki bb))))] (bI (CL ki))) args s 0 0 A) (entryFrame m args 4) by rw [hHe] at K0; exact K0
  refine W.eq (g2 := entryFrame m ([.ref h0, .int (nI ki), .int (bI bb)] : List Value).toArray 4) (by rw [hargs]) ?_
  have hl := lv_entry ([.ref h0, .int (nI ki), .int (bI bb)]) (n := 4) (Nat.le_of_ble_eq_true rfl)
  rw [lg_entry_eq]
  generalize (lg_sl ([.ref h0, .int (nI ki), .int (bI bb)]) ++ List.replicate (4 - (lg_sl ([.ref h0, .int (nI ki), .int (bI bb)])).length) Slot.unset).toArray = ls at hl ⊢
  have hl : lv_has ls 4 [(0, .ref h0), (1, .int (nI ki)), (2, .int (bI bb))] := hl
  generalize ([] : List Loc) = locs at hS ⊢
  have hinX6 : ∀ w ∈ wsX60, w ∈ wsX6_clog := by decide +kernel
  have hf23 := hts (.fieldLink RX6 23 "BrightbandModel" "hasGauge" "[Z") (by decide +kernel)
  have hf27 := hts (.fieldLink RX6 27 "BrightbandModel" "isClogged" "[Z") (by decide +kernel)
  refine lv_aload_n hx hb dX6_clog_0 rfl (lv_at hl 0 rfl) ?_
  refine lv_iload_n hx hb dX6_clog_1 rfl (lv_at hl 1 rfl) ?_
  refine cr_i (wc := []) (w1 := []) (ws2 := [(h0, .inr (6, [.int (nI thr), .int (nI mi), .int (nI me), .int (nI dp), .int (bI up), .int (nI dn), .ref ma, .ref mx, .ref mh, .ref mg, .ref mc, .ref mo, .ref mr, .ref mf, .long wp, .long wl, .int (nI ru), .int (nI sm), .ref mk, .ref ml])), (mg, .inl (cZ, 20, .inl (bA UP))), (mc, .inl (cZ, 20, .inl (bA CL)))]) hP hD hS hA [] rfl rfl rfl (va_runS (As := [.int (nI ki)]) (rest := [.ref h0]) ⟨hx, hb, hml, hown, hts⟩ (c_X6_isPlace_T l D cI cJ cZ ki (by omega) H.size) (va_cwS 1 hts gX6_clog_X6_isPlace rfl rfl rfl (by decide +kernel) ⟨Nat.le_of_ble_eq_true rfl, Nat.le_of_ble_eq_true rfl⟩) (pvS hT hP hD [] rfl rfl) rfl rfl hl.1 rfl (lv_room (Nat.le_of_ble_eq_true rfl)) dX6_clog_2 ⟨Nat.zero_le _, Nat.zero_le _⟩) (fun H locs hP hD hS => ?_)
  refine cb_eq (tgt := 21) hx hb dX6_clog_5 (by decide) (fun c_5 => absurd c_5 (by decide)) (fun c_5 => ?_)
  refine lv_aload_n hx hb dX6_clog_8 rfl (lv_at hl 0 rfl) ?_
  refine va_get (D := D) (ci := 6) (v := .ref mg) (C := RX6) (T := TX6) (N := 20) hx hb hts hinX6 hown hK hP 0 rfl rfl 9 (by decide) hf23 (fun _ h9 => h9) rfl dX6_clog_9 ?_
  refine lv_iload_n hx hb dX6_clog_12 rfl (lv_at hl 1 rfl) ?_
  refine ald_B hx hb hK hP 1 2 rfl rfl ki rfl (by omega) (Nat.le_of_ble_eq_true rfl) dX6_clog_13 ?_
  refine cb_eq (tgt := 21) hx hb dX6_clog_14 (by decide) (fun c_14 => by rw [hup] at c_14; cases c_14) (fun c_14 => ?_)
  refine lv_iconst (v := nI 0) hx hb dX6_clog_17 (by decide) ?_
  refine lv_goto (tgt := 22) hx hb dX6_clog_18 (by decide) ?_
  refine cr_i (wc := [(h0, .inr (6, [.int (nI thr), .int (nI mi), .int (nI me), .int (nI dp), .int (bI up), .int (nI dn), .ref ma, .ref mx, .ref mh, .ref mg, .ref mc, .ref mo, .ref mr, .ref mf, .long wp, .long wl, .int (nI ru), .int (nI sm), .ref mk, .ref ml]))]) (w1 := [(h0, .inr (6, [.int (nI 0), .int (nI mi), .int (nI me), .int (nI dp), .int (bI up), .int (nI dn), .ref ma, .ref mx, .ref mh, .ref mg, .ref mc, .ref mo, .ref mr, .ref mf, .long wp, .long wl, .int (nI ru), .int (nI sm), .ref mk, .ref ml]))]) (ws2 := [(h0, .inr (6, [.int (nI 0), .int (nI mi), .int (nI me), .int (nI dp), .int (bI up), .int (nI dn), .ref ma, .ref mx, .ref mh, .ref mg, .ref mc, .ref mo, .ref mr, .ref mf, .long wp, .long wl, .int (nI ru), .int (nI sm), .ref mk, .ref ml])), (mg, .inl (cZ, 20, .inl (bA UP))), (mc, .inl (cZ, 20, .inl (bA CL)))]) hP hD hS hA [0] rfl rfl rfl (va_runV (As := [.int (nI 0)]) (rest := []) ⟨hx, hb, hml, hown, hts⟩ (c_X6_goesWell_ok l D cI cJ cZ h0 thr mi me dp up dn ma mx mh mg mc mo mr mf mk ml wp wl ru sm H.size) (cwV 1 hts gX6_clog_X6_goesWell rfl rfl rfl (by decide +kernel) ⟨Nat.le_of_ble_eq_true rfl, Nat.le_of_ble_eq_true rfl⟩) (pvV hT hP hD [0] rfl rfl 0 rfl rfl) rfl rfl hl.1 rfl (lv_room (Nat.le_of_ble_eq_true rfl)) dX6_clog_22 ⟨Nat.zero_le _, Nat.zero_le _⟩) (fun H locs hP hD hS => ?_)
  refine cb_ne (tgt := 30) hx hb dX6_clog_25 (by decide) (fun c_25 => ?_) (fun c_25 => absurd c_25 (by decide))
  refine lv_aload_n hx hb dX6_clog_30 rfl (lv_at hl 0 rfl) ?_
  refine va_get (D := D) (ci := 6) (v := .ref mc) (C := RX6) (T := TX6) (N := 20) hx hb hts hinX6 hown hK hP 0 rfl rfl 10 (by decide) hf27 (fun _ h9 => h9) rfl dX6_clog_31 ?_
  refine lv_iload_n hx hb dX6_clog_34 rfl (lv_at hl 1 rfl) ?_
  refine ald_B hx hb hK hP 2 2 rfl rfl ki rfl (by omega) (Nat.le_of_ble_eq_true rfl) dX6_clog_35 ?_
  refine lv_istore_n (lv' := [(3, .int (bI (CL ki))), (0, .ref h0), (1, .int (nI ki)), (2, .int (bI bb))]) hx hb dX6_clog_36 rfl hl (by decide) rfl (fun ls hl => ?_)
  refine lv_aload_n hx hb dX6_clog_37 rfl (lv_at hl 1 rfl) ?_
  refine va_get (D := D) (ci := 6) (v := .ref mc) (C := RX6) (T := TX6) (N := 20) hx hb hts hinX6 hown hK hP 0 rfl rfl 10 (by decide) hf27 (fun _ h9 => h9) rfl dX6_clog_38 ?_
  refine lv_iload_n hx hb dX6_clog_41 rfl (lv_at hl 2 rfl) ?_
  refine lv_iload_n hx hb dX6_clog_42 rfl (lv_at hl 3 rfl) ?_
  refine ast_B (x := bb) hx hb hK hP hD hS 2 2 rfl rfl ki rfl (by omega) (Nat.le_of_ble_eq_true rfl) dX6_clog_43 (fun H locs hP hD hS => ?_)
  have hP : va_P D vwCl [(h0, .inr (6, [.int (nI 0), .int (nI mi), .int (nI me), .int (nI dp), .int (bI up), .int (nI dn), .ref ma, .ref mx, .ref mh, .ref mg, .ref mc, .ref mo, .ref mr, .ref mf, .long wp, .long wl, .int (nI ru), .int (nI sm), .ref mk, .ref ml])), (mg, .inl (cZ, 20, .inl (bA UP))), (mc, .inl (cZ, 20, .inl (bA (uN CL ki bb))))] H := hP
  have hD : va_D A [(h0, .inr (6, [.int (nI 0), .int (nI mi), .int (nI me), .int (nI dp), .int (bI up), .int (nI dn), .ref ma, .ref mx, .ref mh, .ref mg, .ref mc, .ref mo, .ref mr, .ref mf, .long wp, .long wl, .int (nI ru), .int (nI sm), .ref mk, .ref ml])), (mg, .inl (cZ, 20, .inl (bA UP))), (mc, .inl (cZ, 20, .inl (bA (uN CL ki bb))))] := hD
  refine lv_iload_n hx hb dX6_clog_44 rfl (lv_at hl 0 rfl) ?_
  exact fin_z hx hb hr hlocks hP hD hS (rfl) dX6_clog_45
set_option maxHeartbeats 4000000 in
set_option maxRecDepth 100000 in
theorem c_X6_rule (l : Launch) (D : va_G) (cI cJ cZ : ClassId) (h0 : Nat) (thr : Nat) (mi : Nat) (me : Nat) (dp : Nat) (up : Bool) (dn : Nat) (ma : Nat) (mx : Nat) (mh : Nat) (mg : Nat) (mc : Nat) (mo : Nat) (mr : Nat) (mf : Nat) (mk : Nat) (ml : Nat) (wp : Int64) (wl : Int64) (ru : Nat) (sm : Nat) (rr : Nat) (hr1 : 1 ≤ rr) (hr2 : rr ≤ 1000) (sz : Nat) : Met l yX6_rule wsX6_rule ({ frames := 1, cells := 0, slots := 0, locals := 22 } : Room) (va_Pc [.ref h0, .int (nI rr)] (mPre D cI cJ cZ [(h0, .inr (6, [.int (nI thr), .int (nI mi), .int (nI me), .int (nI dp), .int (bI up), .int (nI dn), .ref ma, .ref mx, .ref mh, .ref mg, .ref mc, .ref mo, .ref mr, .ref mf, .long wp, .long wl, .int (nI ru), .int (nI sm), .ref mk, .ref ml]))] sz)) (Qi9 D (va_A [(h0, .inr (6, [.int (nI thr), .int (nI mi), .int (nI me), .int (nI dp), .int (bI up), .int (nI dn), .ref ma, .ref mx, .ref mh, .ref mg, .ref mc, .ref mo, .ref mr, .ref mf, .long wp, .long wl, .int (nI ru), .int (nI sm), .ref mk, .ref ml]))] sz) [(h0, .inr (6, [.int (nI 0), .int (nI mi), .int (nI me), .int (nI dp), .int (bI up), .int (nI dn), .ref ma, .ref mx, .ref mh, .ref mg, .ref mc, .ref mo, .ref mr, .ref mf, .long wp, .long wl, .int (nI rr), .int (nI sm), .ref mk, .ref ml]))] (nI ru)) 0 0 (va_A [(h0, .inr (6, [.int (nI thr), .int (nI mi), .int (nI me), .int (nI dp), .int (bI up), .int (nI dn), .ref ma, .ref mx, .ref mh, .ref mg, .ref mc, .ref mo, .ref mr, .ref mf, .long wp, .long wl, .int (nI ru), .int (nI sm), .ref mk, .ref ml]))] sz) := by
  refine Met.ofW (cc := cX6_rule) (maxL := 3) (ret := (some .int)) (by decide) rfl ?_
  intro p e s m args below meth c s₁ B hml hv
  obtain ⟨hargs, hsz, hP, hT, hD0⟩ := hv
  have hx := B.exec
  have hb := B.bytes
  have hr := B.returns
  have hts := atoms_spec (ws := wsX6_rule) B.pre
  have hown : s.vm.findClass RX6 = some m.cls := findClass_of_methodNamed B.named
  have hlocks := B.notSynchronized
  subst hsz
  have hK := hT.1
  have hD := hD0.self (sz := s.heap.size)
  generalize hAe : va_A [(h0, .inr (6, [.int (nI thr), .int (nI mi), .int (nI me), .int (nI dp), .int (bI up), .int (nI dn), .ref ma, .ref mx, .ref mh, .ref mg, .ref mc, .ref mo, .ref mr, .ref mf, .long wp, .long wl, .int (nI ru), .int (nI sm), .ref mk, .ref ml]))] s.heap.size = A at hD ⊢
  have hA : ∀ q : Nat, s.heap.size ≤ q → A q := fun q h => by rw [← hAe]; exact Or.inr h
  have hS : va_S A s.heap s.heap [] := va_S.rf
  obtain ⟨H, hHe⟩ : ∃ H : Heap, H = s.heap := ⟨_, rfl⟩
  have hS : va_S A s.heap H [] := by rw [hHe]; exact va_S.rf
  rw [← hHe] at hP
  suffices K0 : W p l e (headSpec wsX6_rule ({ frames := 1, cells := 0, slots := 0, locals := 22 } : Room)).room s m args below meth c H [] 0 0 (MQ below (Qi9 D A [(h0, .inr (6, [.int (nI 0), .int (nI mi), .int (nI me), .int (nI dp), .int (bI up), .int (nI dn), .ref ma, .ref mx, .ref mh, .ref mg, .ref mc, .ref mo, .ref mr, .ref mf, .long wp, .long wl, .int (nI rr), .int (nI sm), .ref mk, .ref ml]))] (nI ru)) args s 0 0 A) (entryFrame m args 3) by rw [hHe] at K0; exact K0
  refine W.eq (g2 := entryFrame m ([.ref h0, .int (nI rr)] : List Value).toArray 3) (by rw [hargs]) ?_
  have hl := lv_entry ([.ref h0, .int (nI rr)]) (n := 3) (Nat.le_of_ble_eq_true rfl)
  rw [lg_entry_eq]
  generalize (lg_sl ([.ref h0, .int (nI rr)]) ++ List.replicate (3 - (lg_sl ([.ref h0, .int (nI rr)])).length) Slot.unset).toArray = ls at hl ⊢
  have hl : lv_has ls 3 [(0, .ref h0), (1, .int (nI rr))] := hl
  generalize ([] : List Loc) = locs at hS ⊢
  have hinX6 : ∀ w ∈ wsX60, w ∈ wsX6_rule := by decide +kernel
  have hf40 := hts (.fieldLink RX6 40 "BrightbandModel" "rule" "I") (by decide +kernel)
  refine lv_aload_n hx hb dX6_rule_0 rfl (lv_at hl 0 rfl) ?_
  refine lv_iload_n hx hb dX6_rule_1 rfl (lv_at hl 1 rfl) ?_
  refine lv_iconst (v := nI 1) hx hb dX6_rule_2 (by decide) ?_
  refine lv_sipush (v := nI 1000) hx hb dX6_rule_3 (by decide) ?_
  refine cr_i (wc := []) (w1 := []) (ws2 := [(h0, .inr (6, [.int (nI thr), .int (nI mi), .int (nI me), .int (nI dp), .int (bI up), .int (nI dn), .ref ma, .ref mx, .ref mh, .ref mg, .ref mc, .ref mo, .ref mr, .ref mf, .long wp, .long wl, .int (nI ru), .int (nI sm), .ref mk, .ref ml]))]) hP hD hS hA [] rfl rfl rfl (va_runS (As := [.int (nI rr), .int (nI 1), .int (nI 1000)]) (rest := [.ref h0]) ⟨hx, hb, hml, hown, hts⟩ (c_X6_in_T l D cI cJ cZ rr 1 1000 (by omega) (by omega) (by omega) H.size) (va_cwS 3 hts gX6_rule_X6_in rfl rfl rfl (by decide +kernel) ⟨Nat.le_of_ble_eq_true rfl, Nat.le_of_ble_eq_true rfl⟩) (pvS hT hP hD [] rfl rfl) rfl rfl hl.1 rfl (lv_room (Nat.le_of_ble_eq_true rfl)) dX6_rule_6 ⟨Nat.zero_le _, Nat.zero_le _⟩) (fun H locs hP hD hS => ?_)
  refine cb_eq (tgt := 16) hx hb dX6_rule_9 (by decide) (fun c_9 => absurd c_9 (by decide)) (fun c_9 => ?_)
  refine lv_iconst (v := nI 0) hx hb dX6_rule_12 (by decide) ?_
  refine lv_goto (tgt := 17) hx hb dX6_rule_13 (by decide) ?_
  refine cr_i (wc := [(h0, .inr (6, [.int (nI thr), .int (nI mi), .int (nI me), .int (nI dp), .int (bI up), .int (nI dn), .ref ma, .ref mx, .ref mh, .ref mg, .ref mc, .ref mo, .ref mr, .ref mf, .long wp, .long wl, .int (nI ru), .int (nI sm), .ref mk, .ref ml]))]) (w1 := [(h0, .inr (6, [.int (nI 0), .int (nI mi), .int (nI me), .int (nI dp), .int (bI up), .int (nI dn), .ref ma, .ref mx, .ref mh, .ref mg, .ref mc, .ref mo, .ref mr, .ref mf, .long wp, .long wl, .int (nI ru), .int (nI sm), .ref mk, .ref ml]))]) (ws2 := [(h0, .inr (6, [.int (nI 0), .int (nI mi), .int (nI me), .int (nI dp), .int (bI up), .int (nI dn), .ref ma, .ref mx, .ref mh, .ref mg, .ref mc, .ref mo, .ref mr, .ref mf, .long wp, .long wl, .int (nI ru), .int (nI sm), .ref mk, .ref ml]))]) hP hD hS hA [0] rfl rfl rfl (va_runV (As := [.int (nI 0)]) (rest := []) ⟨hx, hb, hml, hown, hts⟩ (c_X6_goesWell_ok l D cI cJ cZ h0 thr mi me dp up dn ma mx mh mg mc mo mr mf mk ml wp wl ru sm H.size) (cwV 1 hts gX6_rule_X6_goesWell rfl rfl rfl (by decide +kernel) ⟨Nat.le_of_ble_eq_true rfl, Nat.le_of_ble_eq_true rfl⟩) (pvV hT hP hD [0] rfl rfl 0 rfl rfl) rfl rfl hl.1 rfl (lv_room (Nat.le_of_ble_eq_true rfl)) dX6_rule_17 ⟨Nat.zero_le _, Nat.zero_le _⟩) (fun H locs hP hD hS => ?_)
  refine cb_ne (tgt := 25) hx hb dX6_rule_20 (by decide) (fun c_20 => ?_) (fun c_20 => absurd c_20 (by decide))
  refine lv_aload_n hx hb dX6_rule_25 rfl (lv_at hl 0 rfl) ?_
  refine va_get (D := D) (ci := 6) (v := .int (nI ru)) (C := RX6) (T := TX6) (N := 20) hx hb hts hinX6 hown hK hP 0 rfl rfl 16 (by decide) hf40 (fun _ h9 => h9) rfl dX6_rule_26 ?_
  refine lv_istore_n (lv' := [(2, .int (nI ru)), (0, .ref h0), (1, .int (nI rr))]) hx hb dX6_rule_29 rfl hl (by decide) rfl (fun ls hl => ?_)
  refine lv_aload_n hx hb dX6_rule_30 rfl (lv_at hl 1 rfl) ?_
  refine lv_iload_n hx hb dX6_rule_31 rfl (lv_at hl 2 rfl) ?_
  refine va_put (D := D) (ci := 6) (v := .int (nI rr)) (ty := .int) (C := RX6) (T := TX6) (N := 20) hx hb hts hinX6 tyX6 tyX6_ok nmX6 hown hK hP hD hS 0 rfl rfl 16 (by decide) hf40 (fun _ h9 => h9) rfl (by decide +kernel) rfl rfl (Nat.le_of_ble_eq_true rfl) dX6_rule_32 (fun H locs hP hD hS => ?_)
  have hP : va_P D vwCl [(h0, .inr (6, [.int (nI 0), .int (nI mi), .int (nI me), .int (nI dp), .int (bI up), .int (nI dn), .ref ma, .ref mx, .ref mh, .ref mg, .ref mc, .ref mo, .ref mr, .ref mf, .long wp, .long wl, .int (nI rr), .int (nI sm), .ref mk, .ref ml]))] H := hP
  have hD : va_D A [(h0, .inr (6, [.int (nI 0), .int (nI mi), .int (nI me), .int (nI dp), .int (bI up), .int (nI dn), .ref ma, .ref mx, .ref mh, .ref mg, .ref mc, .ref mo, .ref mr, .ref mf, .long wp, .long wl, .int (nI rr), .int (nI sm), .ref mk, .ref ml]))] := hD
  refine lv_iload_n hx hb dX6_rule_35 rfl (lv_at hl 0 rfl) ?_
  exact fin_i hx hb hr hlocks hP hD hS (rfl) dX6_rule_36
set_option maxHeartbeats 4000000 in
set_option maxRecDepth 100000 in
theorem c_X6_count (l : Launch) (D : va_G) (cI cJ cZ : ClassId) (h0 : Nat) (thr : Nat) (mi : Nat) (me : Nat) (dp : Nat) (up : Bool) (dn : Nat) (ma : Nat) (mx : Nat) (mh : Nat) (mg : Nat) (mc : Nat) (mo : Nat) (mr : Nat) (mf : Nat) (mk : Nat) (ml : Nat) (wp : Int64) (wl : Int64) (ru : Nat) (sm : Nat) (C : Nat → Nat) (ki : Nat) (la : Nat) (si : Nat) (hki : ki < 20) (hla : la < 10) (hs1 : 1 ≤ si) (hs3 : si ≤ 3) (sz : Nat) : Met l yX6_count wsX6_count ({ frames := 2, cells := 0, slots := 0, locals := 42 } : Room) (va_Pc [.ref h0, .int (nI ki), .int (nI la), .int (nI si)] (mPre D cI cJ cZ [(h0, .inr (6, [.int (nI thr), .int (nI mi), .int (nI me), .int (nI dp), .int (bI up), .int (nI dn), .ref ma, .ref mx, .ref mh, .ref mg, .ref mc, .ref mo, .ref mr, .ref mf, .long wp, .long wl, .int (nI ru), .int (nI sm), .ref mk, .ref ml])), (ma, .inl (cI, 600, .inl (nA C)))] sz)) (Qi9 D (va_A [(h0, .inr (6, [.int (nI thr), .int (nI mi), .int (nI me), .int (nI dp), .int (bI up), .int (nI dn), .ref ma, .ref mx, .ref mh, .ref mg, .ref mc, .ref mo, .ref mr, .ref mf, .long wp, .long wl, .int (nI ru), .int (nI sm), .ref mk, .ref ml])), (ma, .inl (cI, 600, .inl (nA C)))] sz) [(h0, .inr (6, [.int (nI 0), .int (nI mi), .int (nI me), .int (nI dp), .int (bI up), .int (nI dn), .ref ma, .ref mx, .ref mh, .ref mg, .ref mc, .ref mo, .ref mr, .ref mf, .long wp, .long wl, .int (nI ru), .int (nI sm), .ref mk, .ref ml])), (ma, .inl (cI, 600, .inl (nA C)))] (nI (C (30 * ki + 3 * la + si - 1)))) 0 0 (va_A [(h0, .inr (6, [.int (nI thr), .int (nI mi), .int (nI me), .int (nI dp), .int (bI up), .int (nI dn), .ref ma, .ref mx, .ref mh, .ref mg, .ref mc, .ref mo, .ref mr, .ref mf, .long wp, .long wl, .int (nI ru), .int (nI sm), .ref mk, .ref ml])), (ma, .inl (cI, 600, .inl (nA C)))] sz) := by
  refine Met.ofW (cc := cX6_count) (maxL := 5) (ret := (some .int)) (by decide) rfl ?_
  intro p e s m args below meth c s₁ B hml hv
  obtain ⟨hargs, hsz, hP, hT, hD0⟩ := hv
  have hx := B.exec
  have hb := B.bytes
  have hr := B.returns
  have hts := atoms_spec (ws := wsX6_count) B.pre
  have hown : s.vm.findClass RX6 = some m.cls := findClass_of_methodNamed B.named
  have hlocks := B.notSynchronized
  subst hsz
  have hK := hT.1
  have hD := hD0.self (sz := s.heap.size)
  generalize hAe : va_A [(h0, .inr (6, [.int (nI thr), .int (nI mi), .int (nI me), .int (nI dp), .int (bI up), .int (nI dn), .ref ma, .ref mx, .ref mh, .ref mg, .ref mc, .ref mo, .ref mr, .ref mf, .long wp, .long wl, .int (nI ru), .int (nI sm), .ref mk, .ref ml])), (ma, .inl (cI, 600, .inl (nA C)))] s.heap.size = A at hD ⊢
  have hA : ∀ q : Nat, s.heap.size ≤ q → A q := fun q h => by rw [← hAe]; exact Or.inr h
  have hS : va_S A s.heap s.heap [] := va_S.rf
  obtain ⟨H, hHe⟩ : ∃ H : Heap, H = s.heap := ⟨_, rfl⟩
  have hS : va_S A s.heap H [] := by rw [hHe]; exact va_S.rf
  rw [← hHe] at hP
  suffices K0 : W p l e (headSpec wsX6_count ({ frames := 2, cells := 0, slots := 0, locals := 42 } : Room)).room s m args below meth c H [] 0 0 (MQ below (Qi9 D A [(h0, .inr (6, [.int (nI 0), .int (nI mi), .int (nI me), .int (nI dp), .int (bI up), .int (nI dn), .ref ma, .ref mx, .ref mh, .ref mg, .ref mc, .ref mo, .ref mr, .ref mf, .long wp, .long wl, .int (nI ru), .int (nI sm), .ref mk, .ref ml])), (ma, .inl (cI, 600, .inl (nA C)))] (nI (C (30 * ki + 3 * la + si - 1)))) args s 0 0 A) (entryFrame m args 5) by rw [hHe] at K0; exact K0
  refine W.eq (g2 := entryFrame m ([.ref h0, .int (nI ki), .int (nI la), .int (nI si)] : List Value).toArray 5) (by rw [hargs]) ?_
  have hl := lv_entry ([.ref h0, .int (nI ki), .int (nI la), .int (nI si)]) (n := 5) (Nat.le_of_ble_eq_true rfl)
  rw [lg_entry_eq]
  generalize (lg_sl ([.ref h0, .int (nI ki), .int (nI la), .int (nI si)]) ++ List.replicate (5 - (lg_sl ([.ref h0, .int (nI ki), .int (nI la), .int (nI si)])).length) Slot.unset).toArray = ls at hl ⊢
  have hl : lv_has ls 5 [(0, .ref h0), (1, .int (nI ki)), (2, .int (nI la)), (3, .int (nI si))] := hl
  generalize ([] : List Loc) = locs at hS ⊢
  have hinX6 : ∀ w ∈ wsX60, w ∈ wsX6_count := by decide +kernel
  have hf13 := hts (.fieldLink RX6 13 "BrightbandModel" "air" "[I") (by decide +kernel)
  refine lv_iload_n hx hb dX6_count_0 rfl (lv_at hl 1 rfl) ?_
  refine cr_i (wc := []) (w1 := []) (ws2 := [(h0, .inr (6, [.int (nI thr), .int (nI mi), .int (nI me), .int (nI dp), .int (bI up), .int (nI dn), .ref ma, .ref mx, .ref mh, .ref mg, .ref mc, .ref mo, .ref mr, .ref mf, .long wp, .long wl, .int (nI ru), .int (nI sm), .ref mk, .ref ml])), (ma, .inl (cI, 600, .inl (nA C)))]) hP hD hS hA [] rfl rfl rfl (va_runS (As := [.int (nI ki)]) (rest := []) ⟨hx, hb, hml, hown, hts⟩ (c_X6_isPlace_T l D cI cJ cZ ki (by omega) H.size) (va_cwS 1 hts gX6_count_X6_isPlace rfl rfl rfl (by decide +kernel) ⟨Nat.le_of_ble_eq_true rfl, Nat.le_of_ble_eq_true rfl⟩) (pvS hT hP hD [] rfl rfl) rfl rfl hl.1 rfl (lv_room (Nat.le_of_ble_eq_true rfl)) dX6_count_1 ⟨Nat.zero_le _, Nat.zero_le _⟩) (fun H locs hP hD hS => ?_)
  refine cb_eq (tgt := 18) hx hb dX6_count_4 (by decide) (fun c_4 => absurd c_4 (by decide)) (fun c_4 => ?_)
  refine lv_iload_n hx hb dX6_count_7 rfl (lv_at hl 2 rfl) ?_
  refine cr_i (wc := []) (w1 := []) (ws2 := [(h0, .inr (6, [.int (nI thr), .int (nI mi), .int (nI me), .int (nI dp), .int (bI up), .int (nI dn), .ref ma, .ref mx, .ref mh, .ref mg, .ref mc, .ref mo, .ref mr, .ref mf, .long wp, .long wl, .int (nI ru), .int (nI sm), .ref mk, .ref ml])), (ma, .inl (cI, 600, .inl (nA C)))]) hP hD hS hA [] rfl rfl rfl (va_runS (As := [.int (nI la)]) (rest := []) ⟨hx, hb, hml, hown, hts⟩ (c_X6_isLayer_T l D cI cJ cZ la (by omega) H.size) (va_cwS 1 hts gX6_count_X6_isLayer rfl rfl rfl (by decide +kernel) ⟨Nat.le_of_ble_eq_true rfl, Nat.le_of_ble_eq_true rfl⟩) (pvS hT hP hD [] rfl rfl) rfl rfl hl.1 rfl (lv_room (Nat.le_of_ble_eq_true rfl)) dX6_count_8 ⟨Nat.zero_le _, Nat.zero_le _⟩) (fun H locs hP hD hS => ?_)
  refine cb_eq (tgt := 18) hx hb dX6_count_11 (by decide) (fun c_11 => absurd c_11 (by decide)) (fun c_11 => ?_)
  refine lv_iconst (v := nI 1) hx hb dX6_count_14 (by decide) ?_
  refine lv_goto (tgt := 19) hx hb dX6_count_15 (by decide) ?_
  refine lv_istore (lv' := [(4, .int (nI 1)), (0, .ref h0), (1, .int (nI ki)), (2, .int (nI la)), (3, .int (nI si))]) hx hb dX6_count_19 hl (by decide) rfl (fun ls hl => ?_)
  refine lv_aload_n hx hb dX6_count_21 rfl (lv_at hl 1 rfl) ?_
  refine lv_iload hx hb dX6_count_22 (lv_at hl 0 rfl) ?_
  refine c0_ne (tgt := 31) hx hb dX6_count_24 (by decide) (nT (by omega)) (fun c_24 => ?_) (fun c_24 => by omega)
  refine lv_iload_n hx hb dX6_count_31 rfl (lv_at hl 4 rfl) ?_
  refine lv_iconst (v := nI 1) hx hb dX6_count_32 (by decide) ?_
  refine lv_iconst (v := nI 3) hx hb dX6_count_33 (by decide) ?_
  refine cr_i (wc := []) (w1 := []) (ws2 := [(h0, .inr (6, [.int (nI thr), .int (nI mi), .int (nI me), .int (nI dp), .int (bI up), .int (nI dn), .ref ma, .ref mx, .ref mh, .ref mg, .ref mc, .ref mo, .ref mr, .ref mf, .long wp, .long wl, .int (nI ru), .int (nI sm), .ref mk, .ref ml])), (ma, .inl (cI, 600, .inl (nA C)))]) hP hD hS hA [] rfl rfl rfl (va_runS (As := [.int (nI si), .int (nI 1), .int (nI 3)]) (rest := [.ref h0]) ⟨hx, hb, hml, hown, hts⟩ (c_X6_in_T l D cI cJ cZ si 1 3 (by omega) (by omega) (by omega) H.size) (va_cwS 3 hts gX6_count_X6_in rfl rfl rfl (by decide +kernel) ⟨Nat.le_of_ble_eq_true rfl, Nat.le_of_ble_eq_true rfl⟩) (pvS hT hP hD [] rfl rfl) rfl rfl hl.1 rfl (lv_room (Nat.le_of_ble_eq_true rfl)) dX6_count_34 ⟨Nat.zero_le _, Nat.zero_le _⟩) (fun H locs hP hD hS => ?_)
  refine cb_eq (tgt := 44) hx hb dX6_count_37 (by decide) (fun c_37 => absurd c_37 (by decide)) (fun c_37 => ?_)
  refine lv_iconst (v := nI 0) hx hb dX6_count_40 (by decide) ?_
  refine lv_goto (tgt := 45) hx hb dX6_count_41 (by decide) ?_
  refine cr_i (wc := [(h0, .inr (6, [.int (nI thr), .int (nI mi), .int (nI me), .int (nI dp), .int (bI up), .int (nI dn), .ref ma, .ref mx, .ref mh, .ref mg, .ref mc, .ref mo, .ref mr, .ref mf, .long wp, .long wl, .int (nI ru), .int (nI sm), .ref mk, .ref ml]))]) (w1 := [(h0, .inr (6, [.int (nI 0), .int (nI mi), .int (nI me), .int (nI dp), .int (bI up), .int (nI dn), .ref ma, .ref mx, .ref mh, .ref mg, .ref mc, .ref mo, .ref mr, .ref mf, .long wp, .long wl, .int (nI ru), .int (nI sm), .ref mk, .ref ml]))]) (ws2 := [(h0, .inr (6, [.int (nI 0), .int (nI mi), .int (nI me), .int (nI dp), .int (bI up), .int (nI dn), .ref ma, .ref mx, .ref mh, .ref mg, .ref mc, .ref mo, .ref mr, .ref mf, .long wp, .long wl, .int (nI ru), .int (nI sm), .ref mk, .ref ml])), (ma, .inl (cI, 600, .inl (nA C)))]) hP hD hS hA [0] rfl rfl rfl (va_runV (As := [.int (nI 0)]) (rest := []) ⟨hx, hb, hml, hown, hts⟩ (c_X6_goesWell_ok l D cI cJ cZ h0 thr mi me dp up dn ma mx mh mg mc mo mr mf mk ml wp wl ru sm H.size) (cwV 1 hts gX6_count_X6_goesWell rfl rfl rfl (by decide +kernel) ⟨Nat.le_of_ble_eq_true rfl, Nat.le_of_ble_eq_true rfl⟩) (pvV hT hP hD [0] rfl rfl 0 rfl rfl) rfl rfl hl.1 rfl (lv_room (Nat.le_of_ble_eq_true rfl)) dX6_count_45 ⟨Nat.zero_le _, Nat.zero_le _⟩) (fun H locs hP hD hS => ?_)
  refine cb_ne (tgt := 53) hx hb dX6_count_48 (by decide) (fun c_48 => ?_) (fun c_48 => absurd c_48 (by decide))
  refine lv_aload_n hx hb dX6_count_53 rfl (lv_at hl 1 rfl) ?_
  refine va_get (D := D) (ci := 6) (v := .ref ma) (C := RX6) (T := TX6) (N := 20) hx hb hts hinX6 hown hK hP 0 rfl rfl 6 (by decide) hf13 (fun _ h9 => h9) rfl dX6_count_54 ?_
  refine lv_bipush (v := nI 30) hx hb dX6_count_57 (by decide) ?_
  refine lv_iload_n hx hb dX6_count_59 rfl (lv_at hl 2 rfl) ?_
  refine lv_imul hx hb dX6_count_60 ?_
  refine tp_i (pk_mul _ _) ?_
  refine lv_iconst (v := nI 3) hx hb dX6_count_61 (by decide) ?_
  refine lv_iload_n hx hb dX6_count_62 rfl (lv_at hl 3 rfl) ?_
  refine lv_imul hx hb dX6_count_63 ?_
  refine tp_i (pk_mul _ _) ?_
  refine lv_iadd hx hb dX6_count_64 ?_
  refine tp_i (nI_add _ _) ?_
  refine lv_iload_n hx hb dX6_count_65 rfl (lv_at hl 4 rfl) ?_
  refine lv_iadd hx hb dX6_count_66 ?_
  refine tp_i (nI_add _ _) ?_
  refine lv_iconst (v := nI 1) hx hb dX6_count_67 (by decide) ?_
  refine lv_isub hx hb dX6_count_68 ?_
  refine tp_i (pk_sub (by omega)) ?_
  refine ald_N hx hb hK hP 1 0 rfl rfl ((((30 * ki) + (3 * la)) + si) - 1) rfl (by omega) (Nat.le_of_ble_eq_true rfl) dX6_count_69 ?_
  exact fin_i hx hb hr hlocks hP hD hS (rfl) dX6_count_70
set_option maxHeartbeats 4000000 in
set_option maxRecDepth 100000 in
theorem c_X6_phase (l : Launch) (D : va_G) (cI cJ cZ : ClassId) (h0 : Nat) (thr : Nat) (mi : Nat) (me : Nat) (dp : Nat) (up : Bool) (dn : Nat) (ma : Nat) (mx : Nat) (mh : Nat) (mg : Nat) (mc : Nat) (mo : Nat) (mr : Nat) (mf : Nat) (mk : Nat) (ml : Nat) (wp : Int64) (wl : Int64) (ru : Nat) (sm : Nat) (la : Nat) (hla : la < 10) (hme : me < 10) (sz : Nat) : Met l yX6_phase wsX6_phase ({ frames := 2, cells := 0, slots := 0, locals := 42 } : Room) (va_Pc [.ref h0, .int (nI la)] (mPre D cI cJ cZ [(h0, .inr (6, [.int (nI thr), .int (nI mi), .int (nI me), .int (nI dp), .int (bI up), .int (nI dn), .ref ma, .ref mx, .ref mh, .ref mg, .ref mc, .ref mo, .ref mr, .ref mf, .long wp, .long wl, .int (nI ru), .int (nI sm), .ref mk, .ref ml]))] sz)) (Qi9 D (va_A [(h0, .inr (6, [.int (nI thr), .int (nI mi), .int (nI me), .int (nI dp), .int (bI up), .int (nI dn), .ref ma, .ref mx, .ref mh, .ref mg, .ref mc, .ref mo, .ref mr, .ref mf, .long wp, .long wl, .int (nI ru), .int (nI sm), .ref mk, .ref ml]))] sz) [(h0, .inr (6, [.int (nI 0), .int (nI mi), .int (nI me), .int (nI dp), .int (bI up), .int (nI dn), .ref ma, .ref mx, .ref mh, .ref mg, .ref mc, .ref mo, .ref mr, .ref mf, .long wp, .long wl, .int (nI ru), .int (nI sm), .ref mk, .ref ml]))] (nI (phN la me))) 0 0 (va_A [(h0, .inr (6, [.int (nI thr), .int (nI mi), .int (nI me), .int (nI dp), .int (bI up), .int (nI dn), .ref ma, .ref mx, .ref mh, .ref mg, .ref mc, .ref mo, .ref mr, .ref mf, .long wp, .long wl, .int (nI ru), .int (nI sm), .ref mk, .ref ml]))] sz) := by
  refine Met.ofW (cc := cX6_phase) (maxL := 2) (ret := (some .int)) (by decide) rfl ?_
  intro p e s m args below meth c s₁ B hml hv
  obtain ⟨hargs, hsz, hP, hT, hD0⟩ := hv
  have hx := B.exec
  have hb := B.bytes
  have hr := B.returns
  have hts := atoms_spec (ws := wsX6_phase) B.pre
  have hown : s.vm.findClass RX6 = some m.cls := findClass_of_methodNamed B.named
  have hlocks := B.notSynchronized
  subst hsz
  have hK := hT.1
  have hD := hD0.self (sz := s.heap.size)
  generalize hAe : va_A [(h0, .inr (6, [.int (nI thr), .int (nI mi), .int (nI me), .int (nI dp), .int (bI up), .int (nI dn), .ref ma, .ref mx, .ref mh, .ref mg, .ref mc, .ref mo, .ref mr, .ref mf, .long wp, .long wl, .int (nI ru), .int (nI sm), .ref mk, .ref ml]))] s.heap.size = A at hD ⊢
  have hA : ∀ q : Nat, s.heap.size ≤ q → A q := fun q h => by rw [← hAe]; exact Or.inr h
  have hS : va_S A s.heap s.heap [] := va_S.rf
  obtain ⟨H, hHe⟩ : ∃ H : Heap, H = s.heap := ⟨_, rfl⟩
  have hS : va_S A s.heap H [] := by rw [hHe]; exact va_S.rf
  rw [← hHe] at hP
  suffices K0 : W p l e (headSpec wsX6_phase ({ frames := 2, cells := 0, slots := 0, locals := 42 } : Room)).room s m args below meth c H [] 0 0 (MQ below (Qi9 D A [(h0, .inr (6, [.int (nI 0), .int (nI mi), .int (nI me), .int (nI dp), .int (bI up), .int (nI dn), .ref ma, .ref mx, .ref mh, .ref mg, .ref mc, .ref mo, .ref mr, .ref mf, .long wp, .long wl, .int (nI ru), .int (nI sm), .ref mk, .ref ml]))] (nI (phN la me))) args s 0 0 A) (entryFrame m args 2) by rw [hHe] at K0; exact K0
  refine W.eq (g2 := entryFrame m ([.ref h0, .int (nI la)] : List Value).toArray 2) (by rw [hargs]) ?_
  have hl := lv_entry ([.ref h0, .int (nI la)]) (n := 2) (Nat.le_of_ble_eq_true rfl)
  rw [lg_entry_eq]
  generalize (lg_sl ([.ref h0, .int (nI la)]) ++ List.replicate (2 - (lg_sl ([.ref h0, .int (nI la)])).length) Slot.unset).toArray = ls at hl ⊢
  have hl : lv_has ls 2 [(0, .ref h0), (1, .int (nI la))] := hl
  generalize ([] : List Loc) = locs at hS ⊢
  refine lv_aload_n hx hb dX6_phase_0 rfl (lv_at hl 0 rfl) ?_
  refine lv_iload_n hx hb dX6_phase_1 rfl (lv_at hl 1 rfl) ?_
  refine cr_i (wc := []) (w1 := []) (ws2 := [(h0, .inr (6, [.int (nI thr), .int (nI mi), .int (nI me), .int (nI dp), .int (bI up), .int (nI dn), .ref ma, .ref mx, .ref mh, .ref mg, .ref mc, .ref mo, .ref mr, .ref mf, .long wp, .long wl, .int (nI ru), .int (nI sm), .ref mk, .ref ml]))]) hP hD hS hA [] rfl rfl rfl (va_runS (As := [.int (nI la)]) (rest := [.ref h0]) ⟨hx, hb, hml, hown, hts⟩ (c_X6_isLayer_T l D cI cJ cZ la (by omega) H.size) (va_cwS 1 hts gX6_phase_X6_isLayer rfl rfl rfl (by decide +kernel) ⟨Nat.le_of_ble_eq_true rfl, Nat.le_of_ble_eq_true rfl⟩) (pvS hT hP hD [] rfl rfl) rfl rfl hl.1 rfl (lv_room (Nat.le_of_ble_eq_true rfl)) dX6_phase_2 ⟨Nat.zero_le _, Nat.zero_le _⟩) (fun H locs hP hD hS => ?_)
  refine cb_eq (tgt := 12) hx hb dX6_phase_5 (by decide) (fun c_5 => absurd c_5 (by decide)) (fun c_5 => ?_)
  refine lv_iconst (v := nI 0) hx hb dX6_phase_8 (by decide) ?_
  refine lv_goto (tgt := 13) hx hb dX6_phase_9 (by decide) ?_
  refine cr_i (wc := [(h0, .inr (6, [.int (nI thr), .int (nI mi), .int (nI me), .int (nI dp), .int (bI up), .int (nI dn), .ref ma, .ref mx, .ref mh, .ref mg, .ref mc, .ref mo, .ref mr, .ref mf, .long wp, .long wl, .int (nI ru), .int (nI sm), .ref mk, .ref ml]))]) (w1 := [(h0, .inr (6, [.int (nI 0), .int (nI mi), .int (nI me), .int (nI dp), .int (bI up), .int (nI dn), .ref ma, .ref mx, .ref mh, .ref mg, .ref mc, .ref mo, .ref mr, .ref mf, .long wp, .long wl, .int (nI ru), .int (nI sm), .ref mk, .ref ml]))]) (ws2 := [(h0, .inr (6, [.int (nI 0), .int (nI mi), .int (nI me), .int (nI dp), .int (bI up), .int (nI dn), .ref ma, .ref mx, .ref mh, .ref mg, .ref mc, .ref mo, .ref mr, .ref mf, .long wp, .long wl, .int (nI ru), .int (nI sm), .ref mk, .ref ml]))]) hP hD hS hA [0] rfl rfl rfl (va_runV (As := [.int (nI 0)]) (rest := []) ⟨hx, hb, hml, hown, hts⟩ (c_X6_goesWell_ok l D cI cJ cZ h0 thr mi me dp up dn ma mx mh mg mc mo mr mf mk ml wp wl ru sm H.size) (cwV 1 hts gX6_phase_X6_goesWell rfl rfl rfl (by decide +kernel) ⟨Nat.le_of_ble_eq_true rfl, Nat.le_of_ble_eq_true rfl⟩) (pvV hT hP hD [0] rfl rfl 0 rfl rfl) rfl rfl hl.1 rfl (lv_room (Nat.le_of_ble_eq_true rfl)) dX6_phase_13 ⟨Nat.zero_le _, Nat.zero_le _⟩) (fun H locs hP hD hS => ?_)
  refine cb_eq (tgt := 27) hx hb dX6_phase_16 (by decide) (fun c_16 => absurd c_16 (by decide)) (fun c_16 => ?_)
  refine lv_aload_n hx hb dX6_phase_19 rfl (lv_at hl 0 rfl) ?_
  refine lv_iload_n hx hb dX6_phase_20 rfl (lv_at hl 1 rfl) ?_
  refine cr_i (wc := [(h0, .inr (6, [.int (nI 0), .int (nI mi), .int (nI me), .int (nI dp), .int (bI up), .int (nI dn), .ref ma, .ref mx, .ref mh, .ref mg, .ref mc, .ref mo, .ref mr, .ref mf, .long wp, .long wl, .int (nI ru), .int (nI sm), .ref mk, .ref ml]))]) (w1 := [(h0, .inr (6, [.int (nI 0), .int (nI mi), .int (nI me), .int (nI dp), .int (bI up), .int (nI dn), .ref ma, .ref mx, .ref mh, .ref mg, .ref mc, .ref mo, .ref mr, .ref mf, .long wp, .long wl, .int (nI ru), .int (nI sm), .ref mk, .ref ml]))]) (ws2 := [(h0, .inr (6, [.int (nI 0), .int (nI mi), .int (nI me), .int (nI dp), .int (bI up), .int (nI dn), .ref ma, .ref mx, .ref mh, .ref mg, .ref mc, .ref mo, .ref mr, .ref mf, .long wp, .long wl, .int (nI ru), .int (nI sm), .ref mk, .ref ml]))]) hP hD hS hA [0] rfl rfl rfl (va_runV (As := [.int (nI la)]) (rest := []) ⟨hx, hb, hml, hown, hts⟩ (c_X6_phaseOf l D cI cJ cZ h0 0 mi me dp up dn ma mx mh mg mc mo mr mf mk ml wp wl ru sm la (by omega) (by omega) H.size) (cwV 1 hts gX6_phase_X6_phaseOf rfl rfl rfl (by decide +kernel) ⟨Nat.le_of_ble_eq_true rfl, Nat.le_of_ble_eq_true rfl⟩) (pvV hT hP hD [0] rfl rfl 0 rfl rfl) rfl rfl hl.1 rfl (lv_room (Nat.le_of_ble_eq_true rfl)) dX6_phase_21 ⟨Nat.zero_le _, Nat.zero_le _⟩) (fun H locs hP hD hS => ?_)
  refine lv_goto (tgt := 28) hx hb dX6_phase_24 (by decide) ?_
  exact fin_i hx hb hr hlocks hP hD hS (rfl) dX6_phase_28
set_option maxHeartbeats 4000000 in
set_option maxRecDepth 100000 in
theorem c_X6_isBlocked (l : Launch) (D : va_G) (cI cJ cZ : ClassId) (h0 : Nat) (thr : Nat) (mi : Nat) (me : Nat) (dp : Nat) (up : Bool) (dn : Nat) (ma : Nat) (mx : Nat) (mh : Nat) (mg : Nat) (mc : Nat) (mo : Nat) (mr : Nat) (mf : Nat) (mk : Nat) (ml : Nat) (wp : Int64) (wl : Int64) (ru : Nat) (sm : Nat) (HI : Nat → Nat) (ki : Nat) (ev : Nat) (hki : ki < 20) (hev : ev < 4) (hHI : ∀ k, k < 20 → HI k ≤ 9) (sz : Nat) : Met l yX6_isBlocked wsX6_isBlocked ({ frames := 1, cells := 0, slots := 0, locals := 21 } : Room) (va_Pc [.ref h0, .int (nI ki), .int (nI ev)] (mPre D cI cJ cZ [(h0, .inr (6, [.int (nI thr), .int (nI mi), .int (nI me), .int (nI dp), .int (bI up), .int (nI dn), .ref ma, .ref mx, .ref mh, .ref mg, .ref mc, .ref mo, .ref mr, .ref mf, .long wp, .long wl, .int (nI ru), .int (nI sm), .ref mk, .ref ml])), (mh, .inl (cI, 20, .inl (nA HI)))] sz)) (Qi9 D (va_A [(h0, .inr (6, [.int (nI thr), .int (nI mi), .int (nI me), .int (nI dp), .int (bI up), .int (nI dn), .ref ma, .ref mx, .ref mh, .ref mg, .ref mc, .ref mo, .ref mr, .ref mf, .long wp, .long wl, .int (nI ru), .int (nI sm), .ref mk, .ref ml])), (mh, .inl (cI, 20, .inl (nA HI)))] sz) [(h0, .inr (6, [.int (nI thr), .int (nI mi), .int (nI me), .int (nI dp), .int (bI up), .int (nI dn), .ref ma, .ref mx, .ref mh, .ref mg, .ref mc, .ref mo, .ref mr, .ref mf, .long wp, .long wl, .int (nI ru), .int (nI sm), .ref mk, .ref ml])), (mh, .inl (cI, 20, .inl (nA HI)))] (bI (blk HI ev (ki + 1)))) 0 0 (va_A [(h0, .inr (6, [.int (nI thr), .int (nI mi), .int (nI me), .int (nI dp), .int (bI up), .int (nI dn), .ref ma, .ref mx, .ref mh, .ref mg, .ref mc, .ref mo, .ref mr, .ref mf, .long wp, .long wl, .int (nI ru), .int (nI sm), .ref mk, .ref ml])), (mh, .inl (cI, 20, .inl (nA HI)))] sz) := by
  refine Met.ofW (cc := cX6_isBlocked) (maxL := 5) (ret := (some .boolean)) (by decide) rfl ?_
  intro p e s m args below meth c s₁ B hml hv
  obtain ⟨hargs, hsz, hP, hT, hD0⟩ := hv
  have hx := B.exec
  have hb := B.bytes
  have hr := B.returns
  have hts := atoms_spec (ws := wsX6_isBlocked) B.pre
  have hown : s.vm.findClass RX6 = some m.cls := findClass_of_methodNamed B.named
  have hlocks := B.notSynchronized
  subst hsz
  have hK := hT.1
  have hD := hD0.self (sz := s.heap.size)
  generalize hAe : va_A [(h0, .inr (6, [.int (nI thr), .int (nI mi), .int (nI me), .int (nI dp), .int (bI up), .int (nI dn), .ref ma, .ref mx, .ref mh, .ref mg, .ref mc, .ref mo, .ref mr, .ref mf, .long wp, .long wl, .int (nI ru), .int (nI sm), .ref mk, .ref ml])), (mh, .inl (cI, 20, .inl (nA HI)))] s.heap.size = A at hD ⊢
  have hA : ∀ q : Nat, s.heap.size ≤ q → A q := fun q h => by rw [← hAe]; exact Or.inr h
  have hS : va_S A s.heap s.heap [] := va_S.rf
  obtain ⟨H, hHe⟩ : ∃ H : Heap, H = s.heap := ⟨_, rfl⟩
  have hS : va_S A s.heap H [] := by rw [hHe]; exact va_S.rf
  rw [← hHe] at hP
  suffices K0 : W p l e (headSpec wsX6_isBlocked ({ frames := 1, cells := 0, slots := 0, locals := 21 } : Room)).room s m args below meth c H [] 0 0 (MQ below (Qi9 D A [(h0, .inr (6, [.int (nI thr), .int (nI mi), .int (nI me), .int (nI dp), .int (bI up), .int (nI dn), .ref ma, .ref mx, .ref mh, .ref mg, .ref mc, .ref mo, .ref mr, .ref mf, .long wp, .long wl, .int (nI ru), .int (nI sm), .ref mk, .ref ml])), (mh, .inl (cI, 20, .inl (nA HI)))] (bI (blk HI ev (ki + 1)))) args s 0 0 A) (entryFrame m args 5) by rw [hHe] at K0; exact K0
  refine W.eq (g2 := entryFrame m ([.ref h0, .int (nI ki), .int (nI ev)] : List Value).toArray 5) (by rw [hargs]) ?_
  have hl := lv_entry ([.ref h0, .int (nI ki), .int (nI ev)]) (n := 5) (Nat.le_of_ble_eq_true rfl)
  rw [lg_entry_eq]
  generalize (lg_sl ([.ref h0, .int (nI ki), .int (nI ev)]) ++ List.replicate (5 - (lg_sl ([.ref h0, .int (nI ki), .int (nI ev)])).length) Slot.unset).toArray = ls at hl ⊢
  have hl : lv_has ls 5 [(0, .ref h0), (1, .int (nI ki)), (2, .int (nI ev))] := hl
  generalize ([] : List Loc) = locs at hS ⊢
  have hinX6 : ∀ w ∈ wsX60, w ∈ wsX6_isBlocked := by decide +kernel
  have hf20 := hts (.fieldLink RX6 20 "BrightbandModel" "hill" "[I") (by decide +kernel)
  refine lv_iconst (v := nI 0) hx hb dX6_isBlocked_0 (by decide) ?_
  refine lv_istore_n (lv' := [(3, .int (nI 0)), (0, .ref h0), (1, .int (nI ki)), (2, .int (nI ev))]) hx hb dX6_isBlocked_1 rfl hl (by decide) rfl (fun ls hl => ?_)
  refine lv_iconst (v := nI 0) hx hb dX6_isBlocked_2 (by decide) ?_
  refine lv_istore (lv' := [(4, .int (nI 0)), (3, .int (nI 0)), (0, .ref h0), (1, .int (nI ki)), (2, .int (nI ev))]) hx hb dX6_isBlocked_3 hl (by decide) rfl (fun ls hl => ?_)
  have lp5 : ∀ (n j : Nat), j + n = (ki + 1) → ∀ (H : Heap) (locs : List Loc), va_P D vwCl [(h0, .inr (6, [.int (nI thr), .int (nI mi), .int (nI me), .int (nI dp), .int (bI up), .int (nI dn), .ref ma, .ref mx, .ref mh, .ref mg, .ref mc, .ref mo, .ref mr, .ref mf, .long wp, .long wl, .int (nI ru), .int (nI sm), .ref mk, .ref ml])), (mh, .inl (cI, 20, .inl (nA HI)))] H → va_D A [(h0, .inr (6, [.int (nI thr), .int (nI mi), .int (nI me), .int (nI dp), .int (bI up), .int (nI dn), .ref ma, .ref mx, .ref mh, .ref mg, .ref mc, .ref mo, .ref mr, .ref mf, .long wp, .long wl, .int (nI ru), .int (nI sm), .ref mk, .ref ml])), (mh, .inl (cI, 20, .inl (nA HI)))] → va_S A s.heap H locs → ∀ (ls : Array Slot), lv_has ls 5 [(0, .ref h0), (1, .int (nI ki)), (2, .int (nI ev)), (3, .int (bI (blk HI ev j))), (4, .int (nI j))] → W p l e (headSpec wsX6_isBlocked ({ frames := 1, cells := 0, slots := 0, locals := 21 } : Room)).room s m args below meth c H locs 0 0 (MQ below (Qi9 D A [(h0, .inr (6, [.int (nI thr), .int (nI mi), .int (nI me), .int (nI dp), .int (bI up), .int (nI dn), .ref ma, .ref mx, .ref mh, .ref mg, .ref mc, .ref mo, .ref mr, .ref mf, .long wp, .long wl, .int (nI ru), .int (nI sm), .ref mk, .ref ml])), (mh, .inl (cI, 20, .inl (nA HI)))] (bI (blk HI ev (ki + 1)))) args s 0 0 A) (F0 m 5 ls []) := by
    intro n
    induction n with
    | zero =>
      intro j hcntj H locs hP hD hS ls hl
      obtain rfl : (ki + 1) = j := by omega
      refine lv_iload hx hb dX6_isBlocked_5 (lv_at hl 4 rfl) ?_
      refine lv_iload_n hx hb dX6_isBlocked_7 rfl (lv_at hl 1 rfl) ?_
      refine ci_gt (tgt := 43) hx hb dX6_isBlocked_8 (by decide) (nT (by omega)) (nT (by omega)) (fun c_8 => ?_) (fun c_8 => by omega)
      refine lv_iload_n hx hb dX6_isBlocked_43 rfl (lv_at hl 3 rfl) ?_
      exact fin_z hx hb hr hlocks hP hD hS (rfl) dX6_isBlocked_44
    | succ n ih =>
      intro j hcntj H locs hP hD hS ls hl
      have hltj : j < (ki + 1) := by omega
      refine lv_iload hx hb dX6_isBlocked_5 (lv_at hl 4 rfl) ?_
      refine lv_iload_n hx hb dX6_isBlocked_7 rfl (lv_at hl 1 rfl) ?_
      refine ci_gt (tgt := 43) hx hb dX6_isBlocked_8 (by decide) (nT (by omega)) (nT (by omega)) (fun c_8 => by omega) (fun c_8 => ?_)
      refine lv_iload_n hx hb dX6_isBlocked_11 rfl (lv_at hl 3 rfl) ?_
      refine cb_ne (tgt := 31) hx hb dX6_isBlocked_12 (by decide) (fun c_12 => ?_) (fun c_12 => ?_)
      · refine lv_iconst (v := nI 1) hx hb dX6_isBlocked_31 (by decide) ?_
        refine lv_goto (tgt := 36) hx hb dX6_isBlocked_32 (by decide) ?_
        refine lv_istore_n (lv' := [(3, .int (nI 1)), (0, .ref h0), (1, .int (nI ki)), (2, .int (nI ev)), (4, .int (nI j))]) hx hb dX6_isBlocked_36 rfl hl (by decide) rfl (fun ls hl => ?_)
        refine lv_iinc (v := nI (j + 1)) (lv' := [(4, .int (nI (j + 1))), (3, .int (nI 1)), (0, .ref h0), (1, .int (nI ki)), (2, .int (nI ev))]) hx hb dX6_isBlocked_37 hl (k := 4) rfl (n_inc j) (by decide) rfl (fun ls hl => ?_)
        refine lv_goto (tgt := 5) hx hb dX6_isBlocked_40 (by decide) ?_
        have hle : ([(0, .ref h0), (1, .int (nI ki)), (2, .int (nI ev)), (3, .int (bI (blk HI ev (j + 1)))), (4, .int (nI (j + 1)))] : List (Nat × Value)) = [(0, .ref h0), (1, .int (nI ki)), (2, .int (nI ev)), (3, .int (nI 1)), (4, .int (nI (j + 1)))] := (by first | (rw [show blk HI ev (j + 1) = true from by show (blk HI ev j || decide (bmN j ev < HI j)) = true; rw [c_12]; rfl]; rfl) | (rw [show blk HI ev (j + 1) = true from by show (blk HI ev j || decide (bmN j ev < HI j)) = true; rw [decide_eq_true (by omega)]; exact Bool.or_true _]; rfl) | (rw [show blk HI ev (j + 1) = false from by show (blk HI ev j || decide (bmN j ev < HI j)) = false; rw [c_12, decide_eq_false (by omega)]; rfl]; rfl))
        exact ih (j + 1) (by omega) H locs hP hD hS ls (by rw [hle]; exact lv_sub hl [2, 3, 4, 1, 0] rfl)
      · refine lv_aload_n hx hb dX6_isBlocked_15 rfl (lv_at hl 0 rfl) ?_
        refine va_get (D := D) (ci := 6) (v := .ref mh) (C := RX6) (T := TX6) (N := 20) hx hb hts hinX6 hown hK hP 0 rfl rfl 8 (by decide) hf20 (fun _ h9 => h9) rfl dX6_isBlocked_16 ?_
        refine lv_iload hx hb dX6_isBlocked_19 (lv_at hl 4 rfl) ?_
        refine ald_N hx hb hK hP 1 0 rfl rfl j rfl (by omega) (Nat.le_of_ble_eq_true rfl) dX6_isBlocked_21 ?_
        refine lv_iload hx hb dX6_isBlocked_22 (lv_at hl 4 rfl) ?_
        refine lv_iload_n hx hb dX6_isBlocked_24 rfl (lv_at hl 2 rfl) ?_
        have hbm := bmN_le (ki := j) (ev := ev) (by omega) hev
        have hHi := hHI j (by omega)
        refine cr_i (wc := []) (w1 := []) (ws2 := [(h0, .inr (6, [.int (nI thr), .int (nI mi), .int (nI me), .int (nI dp), .int (bI up), .int (nI dn), .ref ma, .ref mx, .ref mh, .ref mg, .ref mc, .ref mo, .ref mr, .ref mf, .long wp, .long wl, .int (nI ru), .int (nI sm), .ref mk, .ref ml])), (mh, .inl (cI, 20, .inl (nA HI)))]) hP hD hS hA [] rfl rfl rfl (va_runS (As := [.int (nI j), .int (nI ev)]) (rest := [.int (nI (HI j))]) ⟨hx, hb, hml, hown, hts⟩ (c_X6_beam l D cI cJ cZ j ev (by omega) (by omega) H.size) (va_cwS 2 hts gX6_isBlocked_X6_beam rfl rfl rfl (by decide +kernel) ⟨Nat.le_of_ble_eq_true rfl, Nat.le_of_ble_eq_true rfl⟩) (pvS hT hP hD [] rfl rfl) rfl rfl hl.1 rfl (lv_room (Nat.le_of_ble_eq_true rfl)) dX6_isBlocked_25 ⟨Nat.zero_le _, Nat.zero_le _⟩) (fun H locs hP hD hS => ?_)
        refine ci_le (tgt := 35) hx hb dX6_isBlocked_28 (by decide) (nT (by omega)) (nT (by omega)) (fun c_28 => ?_) (fun c_28 => ?_)
        · refine lv_iconst (v := nI 0) hx hb dX6_isBlocked_35 (by decide) ?_
          refine lv_istore_n (lv' := [(3, .int (nI 0)), (0, .ref h0), (1, .int (nI ki)), (2, .int (nI ev)), (4, .int (nI j))]) hx hb dX6_isBlocked_36 rfl hl (by decide) rfl (fun ls hl => ?_)
          refine lv_iinc (v := nI (j + 1)) (lv' := [(4, .int (nI (j + 1))), (3, .int (nI 0)), (0, .ref h0), (1, .int (nI ki)), (2, .int (nI ev))]) hx hb dX6_isBlocked_37 hl (k := 4) rfl (n_inc j) (by decide) rfl (fun ls hl => ?_)
          refine lv_goto (tgt := 5) hx hb dX6_isBlocked_40 (by decide) ?_
          have hle : ([(0, .ref h0), (1, .int (nI ki)), (2, .int (nI ev)), (3, .int (bI (blk HI ev (j + 1)))), (4, .int (nI (j + 1)))] : List (Nat × Value)) = [(0, .ref h0), (1, .int (nI ki)), (2, .int (nI ev)), (3, .int (nI 0)), (4, .int (nI (j + 1)))] := (by first | (rw [show blk HI ev (j + 1) = true from by show (blk HI ev j || decide (bmN j ev < HI j)) = true; rw [c_12]; rfl]; rfl) | (rw [show blk HI ev (j + 1) = true from by show (blk HI ev j || decide (bmN j ev < HI j)) = true; rw [decide_eq_true (by omega)]; exact Bool.or_true _]; rfl) | (rw [show blk HI ev (j + 1) = false from by show (blk HI ev j || decide (bmN j ev < HI j)) = false; rw [c_12, decide_eq_false (by omega)]; rfl]; rfl))
          exact ih (j + 1) (by omega) H locs hP hD hS ls (by rw [hle]; exact lv_sub hl [2, 3, 4, 1, 0] rfl)
        · refine lv_iconst (v := nI 1) hx hb dX6_isBlocked_31 (by decide) ?_
          refine lv_goto (tgt := 36) hx hb dX6_isBlocked_32 (by decide) ?_
          refine lv_istore_n (lv' := [(3, .int (nI 1)), (0, .ref h0), (1, .int (nI ki)), (2, .int (nI ev)), (4, .int (nI j))]) hx hb dX6_isBlocked_36 rfl hl (by decide) rfl (fun ls hl => ?_)
          refine lv_iinc (v := nI (j + 1)) (lv' := [(4, .int (nI (j + 1))), (3, .int (nI 1)), (0, .ref h0), (1, .int (nI ki)), (2, .int (nI ev))]) hx hb dX6_isBlocked_37 hl (k := 4) rfl (n_inc j) (by decide) rfl (fun ls hl => ?_)
          refine lv_goto (tgt := 5) hx hb dX6_isBlocked_40 (by decide) ?_
          have hle : ([(0, .ref h0), (1, .int (nI ki)), (2, .int (nI ev)), (3, .int (bI (blk HI ev (j + 1)))), (4, .int (nI (j + 1)))] : List (Nat × Value)) = [(0, .ref h0), (1, .int (nI ki)), (2, .int (nI ev)), (3, .int (nI 1)), (4, .int (nI (j + 1)))] := (by first | (rw [show blk HI ev (j + 1) = true from by show (blk HI ev j || decide (bmN j ev < HI j)) = true; rw [c_12]; rfl]; rfl) | (rw [show blk HI ev (j + 1) = true from by show (blk HI ev j || decide (bmN j ev < HI j)) = true; rw [decide_eq_true (by omega)]; exact Bool.or_true _]; rfl) | (rw [show blk HI ev (j + 1) = false from by show (blk HI ev j || decide (bmN j ev < HI j)) = false; rw [c_12, decide_eq_false (by omega)]; rfl]; rfl))
          exact ih (j + 1) (by omega) H locs hP hD hS ls (by rw [hle]; exact lv_sub hl [2, 3, 4, 1, 0] rfl)
  have hle : ([(0, .ref h0), (1, .int (nI ki)), (2, .int (nI ev)), (3, .int (bI (blk HI ev 0))), (4, .int (nI 0))] : List (Nat × Value)) = [(0, .ref h0), (1, .int (nI ki)), (2, .int (nI ev)), (3, .int (nI 0)), (4, .int (nI 0))] := rfl
  exact lp5 (ki + 1) 0 (by omega) H locs hP hD hS ls (by rw [hle]; exact lv_sub hl [2, 3, 4, 1, 0] rfl)
set_option maxHeartbeats 4000000 in
set_option maxRecDepth 100000 in
theorem c_X6_echoOf (l : Launch) (D : va_G) (cI cJ cZ : ClassId) (h0 : Nat) (thr : Nat) (mi : Nat) (me : Nat) (dp : Nat) (up : Bool) (dn : Nat) (ma : Nat) (mx : Nat) (mh : Nat) (mg : Nat) (mc : Nat) (mo : Nat) (mr : Nat) (mf : Nat) (mk : Nat) (ml : Nat) (wp : Int64) (wl : Int64) (ru : Nat) (sm : Nat) (C : Nat → Nat) (ki : Nat) (ev : Nat) (hki : ki < 20) (hev : ev < 4) (hme : me < 10) (sz : Nat) : Met l yX6_echoOf wsX6_echoOf ({ frames := 1, cells := 0, slots := 0, locals := 21 } : Room) (va_Pc [.ref h0, .int (nI ki), .int (nI ev)] (mPre D cI cJ cZ [(h0, .inr (6, [.int (nI thr), .int (nI mi), .int (nI me), .int (nI dp), .int (bI up), .int (nI dn), .ref ma, .ref mx, .ref mh, .ref mg, .ref mc, .ref mo, .ref mr, .ref mf, .long wp, .long wl, .int (nI ru), .int (nI sm), .ref mk, .ref ml])), (ma, .inl (cI, 600, .inl (nA C)))] sz)) (Ql9 D (va_A [(h0, .inr (6, [.int (nI thr), .int (nI mi), .int (nI me), .int (nI dp), .int (bI up), .int (nI dn), .ref ma, .ref mx, .ref mh, .ref mg, .ref mc, .ref mo, .ref mr, .ref mf, .long wp, .long wl, .int (nI ru), .int (nI sm), .ref mk, .ref ml])), (ma, .inl (cI, 600, .inl (nA C)))] sz) [(h0, .inr (6, [.int (nI thr), .int (nI mi), .int (nI me), .int (nI dp), .int (bI up), .int (nI dn), .ref ma, .ref mx, .ref mh, .ref mg, .ref mc, .ref mo, .ref mr, .ref mf, .long wp, .long wl, .int (nI ru), .int (nI sm), .ref mk, .ref ml])), (ma, .inl (cI, 600, .inl (nA C)))] (em9 C me ki ev)) 0 0 (va_A [(h0, .inr (6, [.int (nI thr), .int (nI mi), .int (nI me), .int (nI dp), .int (bI up), .int (nI dn), .ref ma, .ref mx, .ref mh, .ref mg, .ref mc, .ref mo, .ref mr, .ref mf, .long wp, .long wl, .int (nI ru), .int (nI sm), .ref mk, .ref ml])), (ma, .inl (cI, 600, .inl (nA C)))] sz) := by
  refine Met.ofW (cc := cX6_echoOf) (maxL := 8) (ret := (some .long)) (by decide) rfl ?_
  intro p e s m args below meth c s₁ B hml hv
  obtain ⟨hargs, hsz, hP, hT, hD0⟩ := hv
  have hx := B.exec
  have hb := B.bytes
  have hr := B.returns
  have hts := atoms_spec (ws := wsX6_echoOf) B.pre
  have hown : s.vm.findClass RX6 = some m.cls := findClass_of_methodNamed B.named
  have hlocks := B.notSynchronized
  subst hsz
  have hK := hT.1
  have hD := hD0.self (sz := s.heap.size)
  generalize hAe : va_A [(h0, .inr (6, [.int (nI thr), .int (nI mi), .int (nI me), .int (nI dp), .int (bI up), .int (nI dn), .ref ma, .ref mx, .ref mh, .ref mg, .ref mc, .ref mo, .ref mr, .ref mf, .long wp, .long wl, .int (nI ru), .int (nI sm), .ref mk, .ref ml])), (ma, .inl (cI, 600, .inl (nA C)))] s.heap.size = A at hD ⊢
  have hA : ∀ q : Nat, s.heap.size ≤ q → A q := fun q h => by rw [← hAe]; exact Or.inr h
  have hS : va_S A s.heap s.heap [] := va_S.rf
  obtain ⟨H, hHe⟩ : ∃ H : Heap, H = s.heap := ⟨_, rfl⟩
  have hS : va_S A s.heap H [] := by rw [hHe]; exact va_S.rf
  rw [← hHe] at hP
  suffices K0 : W p l e (headSpec wsX6_echoOf ({ frames := 1, cells := 0, slots := 0, locals := 21 } : Room)).room s m args below meth c H [] 0 0 (MQ below (Ql9 D A [(h0, .inr (6, [.int (nI thr), .int (nI mi), .int (nI me), .int (nI dp), .int (bI up), .int (nI dn), .ref ma, .ref mx, .ref mh, .ref mg, .ref mc, .ref mo, .ref mr, .ref mf, .long wp, .long wl, .int (nI ru), .int (nI sm), .ref mk, .ref ml])), (ma, .inl (cI, 600, .inl (nA C)))] (em9 C me ki ev)) args s 0 0 A) (entryFrame m args 8) by rw [hHe] at K0; exact K0
  refine W.eq (g2 := entryFrame m ([.ref h0, .int (nI ki), .int (nI ev)] : List Value).toArray 8) (by rw [hargs]) ?_
  have hl := lv_entry ([.ref h0, .int (nI ki), .int (nI ev)]) (n := 8) (Nat.le_of_ble_eq_true rfl)
  rw [lg_entry_eq]
  generalize (lg_sl ([.ref h0, .int (nI ki), .int (nI ev)]) ++ List.replicate (8 - (lg_sl ([.ref h0, .int (nI ki), .int (nI ev)])).length) Slot.unset).toArray = ls at hl ⊢
  have hl : lv_has ls 8 [(0, .ref h0), (1, .int (nI ki)), (2, .int (nI ev))] := hl
  generalize ([] : List Loc) = locs at hS ⊢
  have hinX6 : ∀ w ∈ wsX60, w ∈ wsX6_echoOf := by decide +kernel
  have hf13 := hts (.fieldLink RX6 13 "BrightbandModel" "air" "[I") (by decide +kernel)
  have hc108 := hts (.constantLong RX6 108 (64)) (by decide +kernel)
  have hc110 := hts (.constantLong RX6 110 (729)) (by decide +kernel)
  have hc114 := hts (.constantLong RX6 114 (3)) (by decide +kernel)
  have hc112 := hts (.constantLong RX6 112 (4)) (by decide +kernel)
  have hbm := bmN_le (ki := ki) (ev := ev) hki hev
  have hph := phN_le (bmN ki ev) me
  refine lv_iload_n hx hb dX6_echoOf_0 rfl (lv_at hl 1 rfl) ?_
  refine lv_iload_n hx hb dX6_echoOf_1 rfl (lv_at hl 2 rfl) ?_
  refine cr_i (wc := []) (w1 := []) (ws2 := [(h0, .inr (6, [.int (nI thr), .int (nI mi), .int (nI me), .int (nI dp), .int (bI up), .int (nI dn), .ref ma, .ref mx, .ref mh, .ref mg, .ref mc, .ref mo, .ref mr, .ref mf, .long wp, .long wl, .int (nI ru), .int (nI sm), .ref mk, .ref ml])), (ma, .inl (cI, 600, .inl (nA C)))]) hP hD hS hA [] rfl rfl rfl (va_runS (As := [.int (nI ki), .int (nI ev)]) (rest := []) ⟨hx, hb, hml, hown, hts⟩ (c_X6_beam l D cI cJ cZ ki ev (by omega) (by omega) H.size) (va_cwS 2 hts gX6_echoOf_X6_beam rfl rfl rfl (by decide +kernel) ⟨Nat.le_of_ble_eq_true rfl, Nat.le_of_ble_eq_true rfl⟩) (pvS hT hP hD [] rfl rfl) rfl rfl hl.1 rfl (lv_room (Nat.le_of_ble_eq_true rfl)) dX6_echoOf_2 ⟨Nat.zero_le _, Nat.zero_le _⟩) (fun H locs hP hD hS => ?_)
  refine lv_istore_n (lv' := [(3, .int (nI (bmN ki ev))), (0, .ref h0), (1, .int (nI ki)), (2, .int (nI ev))]) hx hb dX6_echoOf_5 rfl hl (by decide) rfl (fun ls hl => ?_)
  refine lv_iload_n hx hb dX6_echoOf_6 rfl (lv_at hl 0 rfl) ?_
  refine lv_bipush (v := nI 10) hx hb dX6_echoOf_7 (by decide) ?_
  refine ci_lt (tgt := 14) hx hb dX6_echoOf_9 (by decide) (nT (by omega)) (nT (by omega)) (fun c_9 => ?_) (fun c_9 => ?_)
  · refine lv_bipush (v := nI 30) hx hb dX6_echoOf_14 (by decide) ?_
    refine lv_iload_n hx hb dX6_echoOf_16 rfl (lv_at hl 2 rfl) ?_
    refine lv_imul hx hb dX6_echoOf_17 ?_
    refine tp_i (pk_mul _ _) ?_
    refine lv_iconst (v := nI 3) hx hb dX6_echoOf_18 (by decide) ?_
    refine lv_iload_n hx hb dX6_echoOf_19 rfl (lv_at hl 0 rfl) ?_
    refine lv_imul hx hb dX6_echoOf_20 ?_
    refine tp_i (pk_mul _ _) ?_
    refine lv_iadd hx hb dX6_echoOf_21 ?_
    refine tp_i (nI_add _ _) ?_
    refine lv_istore (lv' := [(4, .int (nI ((30 * ki) + (3 * (bmN ki ev))))), (3, .int (nI (bmN ki ev))), (0, .ref h0), (1, .int (nI ki)), (2, .int (nI ev))]) hx hb dX6_echoOf_22 hl (by decide) rfl (fun ls hl => ?_)
    refine lv_aload_n hx hb dX6_echoOf_24 rfl (lv_at hl 2 rfl) ?_
    refine va_get (D := D) (ci := 6) (v := .ref ma) (C := RX6) (T := TX6) (N := 20) hx hb hts hinX6 hown hK hP 0 rfl rfl 6 (by decide) hf13 (fun _ h9 => h9) rfl dX6_echoOf_25 ?_
    refine lv_iload hx hb dX6_echoOf_28 (lv_at hl 0 rfl) ?_
    refine ald_N hx hb hK hP 1 0 rfl rfl ((30 * ki) + (3 * (bmN ki ev))) rfl (by omega) (Nat.le_of_ble_eq_true rfl) dX6_echoOf_30 ?_
    refine lv_i2l (v := (nI (C ((30 * ki) + (3 * (bmN ki ev))))).toInt64) hx hb dX6_echoOf_31 rfl ?_
    refine lv_ldc2 (v := 64) hx hb hown hc108 dX6_echoOf_32 ?_
    refine lv_aload_n hx hb dX6_echoOf_35 rfl (lv_at hl 2 rfl) ?_
    refine va_get (D := D) (ci := 6) (v := .ref ma) (C := RX6) (T := TX6) (N := 20) hx hb hts hinX6 hown hK hP 0 rfl rfl 6 (by decide) hf13 (fun _ h9 => h9) rfl dX6_echoOf_36 ?_
    refine lv_iload hx hb dX6_echoOf_39 (lv_at hl 0 rfl) ?_
    refine lv_iconst (v := nI 1) hx hb dX6_echoOf_41 (by decide) ?_
    refine lv_iadd hx hb dX6_echoOf_42 ?_
    refine tp_i (nI_add _ _) ?_
    refine ald_N hx hb hK hP 1 0 rfl rfl (((30 * ki) + (3 * (bmN ki ev))) + 1) rfl (by omega) (Nat.le_of_ble_eq_true rfl) dX6_echoOf_43 ?_
    refine lv_i2l (v := (nI (C (((30 * ki) + (3 * (bmN ki ev))) + 1))).toInt64) hx hb dX6_echoOf_44 rfl ?_
    refine lv_lmul hx hb dX6_echoOf_45 ?_
    refine lv_ladd hx hb dX6_echoOf_46 ?_
    refine lv_ldc2 (v := 729) hx hb hown hc110 dX6_echoOf_47 ?_
    refine lv_aload_n hx hb dX6_echoOf_50 rfl (lv_at hl 2 rfl) ?_
    refine va_get (D := D) (ci := 6) (v := .ref ma) (C := RX6) (T := TX6) (N := 20) hx hb hts hinX6 hown hK hP 0 rfl rfl 6 (by decide) hf13 (fun _ h9 => h9) rfl dX6_echoOf_51 ?_
    refine lv_iload hx hb dX6_echoOf_54 (lv_at hl 0 rfl) ?_
    refine lv_iconst (v := nI 2) hx hb dX6_echoOf_56 (by decide) ?_
    refine lv_iadd hx hb dX6_echoOf_57 ?_
    refine tp_i (nI_add _ _) ?_
    refine ald_N hx hb hK hP 1 0 rfl rfl (((30 * ki) + (3 * (bmN ki ev))) + 2) rfl (by omega) (Nat.le_of_ble_eq_true rfl) dX6_echoOf_58 ?_
    refine lv_i2l (v := (nI (C (((30 * ki) + (3 * (bmN ki ev))) + 2))).toInt64) hx hb dX6_echoOf_59 rfl ?_
    refine lv_lmul hx hb dX6_echoOf_60 ?_
    refine lv_ladd hx hb dX6_echoOf_61 ?_
    refine lv_lstore (lv' := [(5, .long ((((nI (C ((30 * ki) + (3 * (bmN ki ev))))).toInt64) + (64 * ((nI (C (((30 * ki) + (3 * (bmN ki ev))) + 1))).toInt64))) + (729 * ((nI (C (((30 * ki) + (3 * (bmN ki ev))) + 2))).toInt64)))), (4, .int (nI ((30 * ki) + (3 * (bmN ki ev))))), (3, .int (nI (bmN ki ev))), (0, .ref h0), (1, .int (nI ki)), (2, .int (nI ev))]) hx hb dX6_echoOf_62 hl (by decide) rfl (fun ls hl => ?_)
    refine lv_aload_n hx hb dX6_echoOf_64 rfl (lv_at hl 3 rfl) ?_
    refine lv_iload_n hx hb dX6_echoOf_65 rfl (lv_at hl 2 rfl) ?_
    refine cr_i (wc := [(h0, .inr (6, [.int (nI thr), .int (nI mi), .int (nI me), .int (nI dp), .int (bI up), .int (nI dn), .ref ma, .ref mx, .ref mh, .ref mg, .ref mc, .ref mo, .ref mr, .ref mf, .long wp, .long wl, .int (nI ru), .int (nI sm), .ref mk, .ref ml]))]) (w1 := [(h0, .inr (6, [.int (nI thr), .int (nI mi), .int (nI me), .int (nI dp), .int (bI up), .int (nI dn), .ref ma, .ref mx, .ref mh, .ref mg, .ref mc, .ref mo, .ref mr, .ref mf, .long wp, .long wl, .int (nI ru), .int (nI sm), .ref mk, .ref ml]))]) (ws2 := [(h0, .inr (6, [.int (nI thr), .int (nI mi), .int (nI me), .int (nI dp), .int (bI up), .int (nI dn), .ref ma, .ref mx, .ref mh, .ref mg, .ref mc, .ref mo, .ref mr, .ref mf, .long wp, .long wl, .int (nI ru), .int (nI sm), .ref mk, .ref ml])), (ma, .inl (cI, 600, .inl (nA C)))]) hP hD hS hA [0] rfl rfl rfl (va_runV (As := [.int (nI (bmN ki ev))]) (rest := []) ⟨hx, hb, hml, hown, hts⟩ (c_X6_phaseOf l D cI cJ cZ h0 thr mi me dp up dn ma mx mh mg mc mo mr mf mk ml wp wl ru sm (bmN ki ev) (by omega) (by omega) H.size) (cwV 1 hts gX6_echoOf_X6_phaseOf rfl rfl rfl (by decide +kernel) ⟨Nat.le_of_ble_eq_true rfl, Nat.le_of_ble_eq_true rfl⟩) (pvV hT hP hD [0] rfl rfl 0 rfl rfl) rfl rfl hl.1 rfl (lv_room (Nat.le_of_ble_eq_true rfl)) dX6_echoOf_66 ⟨Nat.zero_le _, Nat.zero_le _⟩) (fun H locs hP hD hS => ?_)
    refine lv_istore (lv' := [(7, .int (nI (phN (bmN ki ev) me))), (5, .long ((((nI (C ((30 * ki) + (3 * (bmN ki ev))))).toInt64) + (64 * ((nI (C (((30 * ki) + (3 * (bmN ki ev))) + 1))).toInt64))) + (729 * ((nI (C (((30 * ki) + (3 * (bmN ki ev))) + 2))).toInt64)))), (4, .int (nI ((30 * ki) + (3 * (bmN ki ev))))), (3, .int (nI (bmN ki ev))), (0, .ref h0), (1, .int (nI ki)), (2, .int (nI ev))]) hx hb dX6_echoOf_69 hl (by decide) rfl (fun ls hl => ?_)
    refine lv_iload hx hb dX6_echoOf_71 (lv_at hl 0 rfl) ?_
    refine c0_ne (tgt := 85) hx hb dX6_echoOf_73 (by decide) (nT (by omega)) (fun c_73 => ?_) (fun c_73 => ?_)
    · refine lv_iload hx hb dX6_echoOf_85 (lv_at hl 0 rfl) ?_
      refine lv_iconst (v := nI 1) hx hb dX6_echoOf_87 (by decide) ?_
      refine ci_ne (tgt := 100) hx hb dX6_echoOf_88 (by decide) (nT (by omega)) (nT (by omega)) (fun c_88 => ?_) (fun c_88 => ?_)
      · refine lv_lload hx hb dX6_echoOf_100 (lv_at hl 1 rfl) ?_
        exact fin_l hx hb hr hlocks hP hD hS ((by unfold em9; first | (rw [if_pos (by omega)]; done) | (rw [if_neg (by omega), if_pos (by omega)]; first | done | rfl) | (rw [if_neg (by omega), if_neg (by omega), if_pos (by omega)]; first | done | rfl) | (rw [if_neg (by omega), if_neg (by omega), if_neg (by omega)]; first | done | rfl))) dX6_echoOf_102
      · refine lv_ldc2 (v := 3) hx hb hown hc114 dX6_echoOf_91 ?_
        refine lv_lload hx hb dX6_echoOf_94 (lv_at hl 1 rfl) ?_
        refine lv_lmul hx hb dX6_echoOf_96 ?_
        refine lv_goto (tgt := 102) hx hb dX6_echoOf_97 (by decide) ?_
        exact fin_l hx hb hr hlocks hP hD hS ((by unfold em9; first | (rw [if_pos (by omega)]; done) | (rw [if_neg (by omega), if_pos (by omega)]; first | done | rfl) | (rw [if_neg (by omega), if_neg (by omega), if_pos (by omega)]; first | done | rfl) | (rw [if_neg (by omega), if_neg (by omega), if_neg (by omega)]; first | done | rfl))) dX6_echoOf_102
    · refine lv_lload hx hb dX6_echoOf_76 (lv_at hl 1 rfl) ?_
      refine lv_ldc2 (v := 4) hx hb hown hc112 dX6_echoOf_78 ?_
      refine lv_ldiv hx hb dX6_echoOf_81 (by decide) ?_
      refine lv_goto (tgt := 102) hx hb dX6_echoOf_82 (by decide) ?_
      exact fin_l hx hb hr hlocks hP hD hS ((by unfold em9; first | (rw [if_pos (by omega)]; done) | (rw [if_neg (by omega), if_pos (by omega)]; first | done | rfl) | (rw [if_neg (by omega), if_neg (by omega), if_pos (by omega)]; first | done | rfl) | (rw [if_neg (by omega), if_neg (by omega), if_neg (by omega)]; first | done | rfl))) dX6_echoOf_102
  · refine lv_lconst (v := 0) hx hb dX6_echoOf_12 (by decide) ?_
    exact fin_l hx hb hr hlocks hP hD hS ((by unfold em9; first | (rw [if_pos (by omega)]; done) | (rw [if_neg (by omega), if_pos (by omega)]; first | done | rfl) | (rw [if_neg (by omega), if_neg (by omega), if_pos (by omega)]; first | done | rfl) | (rw [if_neg (by omega), if_neg (by omega), if_neg (by omega)]; first | done | rfl))) dX6_echoOf_13
set_option maxHeartbeats 4000000 in
set_option maxRecDepth 100000 in
theorem c_X6_echo (l : Launch) (D : va_G) (cI cJ cZ : ClassId) (h0 : Nat) (thr : Nat) (mi : Nat) (me : Nat) (dp : Nat) (up : Bool) (dn : Nat) (ma : Nat) (mx : Nat) (mh : Nat) (mg : Nat) (mc : Nat) (mo : Nat) (mr : Nat) (mf : Nat) (mk : Nat) (ml : Nat) (wp : Int64) (wl : Int64) (ru : Nat) (sm : Nat) (HI : Nat → Nat) (C : Nat → Nat) (ki : Nat) (ev : Nat) (hki : ki < 20) (hev : ev < 4) (hme : me < 10) (hHI : ∀ k, k < 20 → HI k ≤ 9) (sz : Nat) : Met l yX6_echo wsX6_echo ({ frames := 2, cells := 0, slots := 0, locals := 48 } : Room) (va_Pc [.ref h0, .int (nI ki), .int (nI ev)] (mPre D cI cJ cZ [(h0, .inr (6, [.int (nI thr), .int (nI mi), .int (nI me), .int (nI dp), .int (bI up), .int (nI dn), .ref ma, .ref mx, .ref mh, .ref mg, .ref mc, .ref mo, .ref mr, .ref mf, .long wp, .long wl, .int (nI ru), .int (nI sm), .ref mk, .ref ml])), (mh, .inl (cI, 20, .inl (nA HI))), (ma, .inl (cI, 600, .inl (nA C)))] sz)) (Ql9 D (va_A [(h0, .inr (6, [.int (nI thr), .int (nI mi), .int (nI me), .int (nI dp), .int (bI up), .int (nI dn), .ref ma, .ref mx, .ref mh, .ref mg, .ref mc, .ref mo, .ref mr, .ref mf, .long wp, .long wl, .int (nI ru), .int (nI sm), .ref mk, .ref ml])), (mh, .inl (cI, 20, .inl (nA HI))), (ma, .inl (cI, 600, .inl (nA C)))] sz) [(h0, .inr (6, [.int (nI 0), .int (nI mi), .int (nI me), .int (nI dp), .int (bI up), .int (nI dn), .ref ma, .ref mx, .ref mh, .ref mg, .ref mc, .ref mo, .ref mr, .ref mf, .long wp, .long wl, .int (nI ru), .int (nI sm), .ref mk, .ref ml])), (mh, .inl (cI, 20, .inl (nA HI))), (ma, .inl (cI, 600, .inl (nA C)))] (if blk HI ev (ki + 1) = true then -1 else em9 C me ki ev)) 0 0 (va_A [(h0, .inr (6, [.int (nI thr), .int (nI mi), .int (nI me), .int (nI dp), .int (bI up), .int (nI dn), .ref ma, .ref mx, .ref mh, .ref mg, .ref mc, .ref mo, .ref mr, .ref mf, .long wp, .long wl, .int (nI ru), .int (nI sm), .ref mk, .ref ml])), (mh, .inl (cI, 20, .inl (nA HI))), (ma, .inl (cI, 600, .inl (nA C)))] sz) := by
  refine Met.ofW (cc := cX6_echo) (maxL := 4) (ret := (some .long)) (by decide) rfl ?_
  intro p e s m args below meth c s₁ B hml hv
  obtain ⟨hargs, hsz, hP, hT, hD0⟩ := hv
  have hx := B.exec
  have hb := B.bytes
  have hr := B.returns
  have hts := atoms_spec (ws := wsX6_echo) B.pre
  have hown : s.vm.findClass RX6 = some m.cls := findClass_of_methodNamed B.named
  have hlocks := B.notSynchronized
  subst hsz
  have hK := hT.1
  have hD := hD0.self (sz := s.heap.size)
  generalize hAe : va_A [(h0, .inr (6, [.int (nI thr), .int (nI mi), .int (nI me), .int (nI dp), .int (bI up), .int (nI dn), .ref ma, .ref mx, .ref mh, .ref mg, .ref mc, .ref mo, .ref mr, .ref mf, .long wp, .long wl, .int (nI ru), .int (nI sm), .ref mk, .ref ml])), (mh, .inl (cI, 20, .inl (nA HI))), (ma, .inl (cI, 600, .inl (nA C)))] s.heap.size = A at hD ⊢
  have hA : ∀ q : Nat, s.heap.size ≤ q → A q := fun q h => by rw [← hAe]; exact Or.inr h
  have hS : va_S A s.heap s.heap [] := va_S.rf
  obtain ⟨H, hHe⟩ : ∃ H : Heap, H = s.heap := ⟨_, rfl⟩
  have hS : va_S A s.heap H [] := by rw [hHe]; exact va_S.rf
  rw [← hHe] at hP
  suffices K0 : W p l e (headSpec wsX6_echo ({ frames := 2, cells := 0, slots := 0, locals := 48 } : Room)).room s m args below meth c H [] 0 0 (MQ below (Ql9 D A [(h0, .inr (6, [.int (nI 0), .int (nI mi), .int (nI me), .int (nI dp), .int (bI up), .int (nI dn), .ref ma, .ref mx, .ref mh, .ref mg, .ref mc, .ref mo, .ref mr, .ref mf, .long wp, .long wl, .int (nI ru), .int (nI sm), .ref mk, .ref ml])), (mh, .inl (cI, 20, .inl (nA HI))), (ma, .inl (cI, 600, .inl (nA C)))] (if blk HI ev (ki + 1) = true then -1 else em9 C me ki ev)) args s 0 0 A) (entryFrame m args 4) by rw [hHe] at K0; exact K0
  refine W.eq (g2 := entryFrame m ([.ref h0, .int (nI ki), .int (nI ev)] : List Value).toArray 4) (by rw [hargs]) ?_
  have hl := lv_entry ([.ref h0, .int (nI ki), .int (nI ev)]) (n := 4) (Nat.le_of_ble_eq_true rfl)
  rw [lg_entry_eq]
  generalize (lg_sl ([.ref h0, .int (nI ki), .int (nI ev)]) ++ List.replicate (4 - (lg_sl ([.ref h0, .int (nI ki), .int (nI ev)])).length) Slot.unset).toArray = ls at hl ⊢
  have hl : lv_has ls 4 [(0, .ref h0), (1, .int (nI ki)), (2, .int (nI ev))] := hl
  generalize ([] : List Loc) = locs at hS ⊢
  have hc133 := hts (.constantLong RX6 133 (-1)) (by decide +kernel)
  refine lv_iload_n hx hb dX6_echo_0 rfl (lv_at hl 1 rfl) ?_
  refine cr_i (wc := []) (w1 := []) (ws2 := [(h0, .inr (6, [.int (nI thr), .int (nI mi), .int (nI me), .int (nI dp), .int (bI up), .int (nI dn), .ref ma, .ref mx, .ref mh, .ref mg, .ref mc, .ref mo, .ref mr, .ref mf, .long wp, .long wl, .int (nI ru), .int (nI sm), .ref mk, .ref ml])), (mh, .inl (cI, 20, .inl (nA HI))), (ma, .inl (cI, 600, .inl (nA C)))]) hP hD hS hA [] rfl rfl rfl (va_runS (As := [.int (nI ki)]) (rest := []) ⟨hx, hb, hml, hown, hts⟩ (c_X6_isPlace_T l D cI cJ cZ ki (by omega) H.size) (va_cwS 1 hts gX6_echo_X6_isPlace rfl rfl rfl (by decide +kernel) ⟨Nat.le_of_ble_eq_true rfl, Nat.le_of_ble_eq_true rfl⟩) (pvS hT hP hD [] rfl rfl) rfl rfl hl.1 rfl (lv_room (Nat.le_of_ble_eq_true rfl)) dX6_echo_1 ⟨Nat.zero_le _, Nat.zero_le _⟩) (fun H locs hP hD hS => ?_)
  refine lv_istore_n (lv' := [(3, .int (bI true)), (0, .ref h0), (1, .int (nI ki)), (2, .int (nI ev))]) hx hb dX6_echo_4 rfl hl (by decide) rfl (fun ls hl => ?_)
  refine lv_aload_n hx hb dX6_echo_5 rfl (lv_at hl 1 rfl) ?_
  refine lv_iload_n hx hb dX6_echo_6 rfl (lv_at hl 0 rfl) ?_
  refine cb_ne (tgt := 14) hx hb dX6_echo_7 (by decide) (fun c_7 => ?_) (fun c_7 => absurd c_7 (by decide))
  refine lv_iload_n hx hb dX6_echo_14 rfl (lv_at hl 3 rfl) ?_
  refine cr_i (wc := []) (w1 := []) (ws2 := [(h0, .inr (6, [.int (nI thr), .int (nI mi), .int (nI me), .int (nI dp), .int (bI up), .int (nI dn), .ref ma, .ref mx, .ref mh, .ref mg, .ref mc, .ref mo, .ref mr, .ref mf, .long wp, .long wl, .int (nI ru), .int (nI sm), .ref mk, .ref ml])), (mh, .inl (cI, 20, .inl (nA HI))), (ma, .inl (cI, 600, .inl (nA C)))]) hP hD hS hA [] rfl rfl rfl (va_runS (As := [.int (nI ev)]) (rest := [.ref h0]) ⟨hx, hb, hml, hown, hts⟩ (c_X6_isElevation_T l D cI cJ cZ ev (by omega) H.size) (va_cwS 1 hts gX6_echo_X6_isElevation rfl rfl rfl (by decide +kernel) ⟨Nat.le_of_ble_eq_true rfl, Nat.le_of_ble_eq_true rfl⟩) (pvS hT hP hD [] rfl rfl) rfl rfl hl.1 rfl (lv_room (Nat.le_of_ble_eq_true rfl)) dX6_echo_15 ⟨Nat.zero_le _, Nat.zero_le _⟩) (fun H locs hP hD hS => ?_)
  refine cb_eq (tgt := 25) hx hb dX6_echo_18 (by decide) (fun c_18 => absurd c_18 (by decide)) (fun c_18 => ?_)
  refine lv_iconst (v := nI 0) hx hb dX6_echo_21 (by decide) ?_
  refine lv_goto (tgt := 26) hx hb dX6_echo_22 (by decide) ?_
  refine cr_i (wc := [(h0, .inr (6, [.int (nI thr), .int (nI mi), .int (nI me), .int (nI dp), .int (bI up), .int (nI dn), .ref ma, .ref mx, .ref mh, .ref mg, .ref mc, .ref mo, .ref mr, .ref mf, .long wp, .long wl, .int (nI ru), .int (nI sm), .ref mk, .ref ml]))]) (w1 := [(h0, .inr (6, [.int (nI 0), .int (nI mi), .int (nI me), .int (nI dp), .int (bI up), .int (nI dn), .ref ma, .ref mx, .ref mh, .ref mg, .ref mc, .ref mo, .ref mr, .ref mf, .long wp, .long wl, .int (nI ru), .int (nI sm), .ref mk, .ref ml]))]) (ws2 := [(h0, .inr (6, [.int (nI 0), .int (nI mi), .int (nI me), .int (nI dp), .int (bI up), .int (nI dn), .ref ma, .ref mx, .ref mh, .ref mg, .ref mc, .ref mo, .ref mr, .ref mf, .long wp, .long wl, .int (nI ru), .int (nI sm), .ref mk, .ref ml])), (mh, .inl (cI, 20, .inl (nA HI))), (ma, .inl (cI, 600, .inl (nA C)))]) hP hD hS hA [0] rfl rfl rfl (va_runV (As := [.int (nI 0)]) (rest := []) ⟨hx, hb, hml, hown, hts⟩ (c_X6_goesWell_ok l D cI cJ cZ h0 thr mi me dp up dn ma mx mh mg mc mo mr mf mk ml wp wl ru sm H.size) (cwV 1 hts gX6_echo_X6_goesWell rfl rfl rfl (by decide +kernel) ⟨Nat.le_of_ble_eq_true rfl, Nat.le_of_ble_eq_true rfl⟩) (pvV hT hP hD [0] rfl rfl 0 rfl rfl) rfl rfl hl.1 rfl (lv_room (Nat.le_of_ble_eq_true rfl)) dX6_echo_26 ⟨Nat.zero_le _, Nat.zero_le _⟩) (fun H locs hP hD hS => ?_)
  refine cb_ne (tgt := 34) hx hb dX6_echo_29 (by decide) (fun c_29 => ?_) (fun c_29 => absurd c_29 (by decide))
  refine lv_aload_n hx hb dX6_echo_34 rfl (lv_at hl 1 rfl) ?_
  refine lv_iload_n hx hb dX6_echo_35 rfl (lv_at hl 2 rfl) ?_
  refine lv_iload_n hx hb dX6_echo_36 rfl (lv_at hl 3 rfl) ?_
  refine cr_i (wc := [(h0, .inr (6, [.int (nI 0), .int (nI mi), .int (nI me), .int (nI dp), .int (bI up), .int (nI dn), .ref ma, .ref mx, .ref mh, .ref mg, .ref mc, .ref mo, .ref mr, .ref mf, .long wp, .long wl, .int (nI ru), .int (nI sm), .ref mk, .ref ml])), (mh, .inl (cI, 20, .inl (nA HI)))]) (w1 := [(h0, .inr (6, [.int (nI 0), .int (nI mi), .int (nI me), .int (nI dp), .int (bI up), .int (nI dn), .ref ma, .ref mx, .ref mh, .ref mg, .ref mc, .ref mo, .ref mr, .ref mf, .long wp, .long wl, .int (nI ru), .int (nI sm), .ref mk, .ref ml])), (mh, .inl (cI, 20, .inl (nA HI)))]) (ws2 := [(h0, .inr (6, [.int (nI 0), .int (nI mi), .int (nI me), .int (nI dp), .int (bI up), .int (nI dn), .ref ma, .ref mx, .ref mh, .ref mg, .ref mc, .ref mo, .ref mr, .ref mf, .long wp, .long wl, .int (nI ru), .int (nI sm), .ref mk, .ref ml])), (mh, .inl (cI, 20, .inl (nA HI))), (ma, .inl (cI, 600, .inl (nA C)))]) hP hD hS hA [0, 1] rfl rfl rfl (va_runV (As := [.int (nI ki), .int (nI ev)]) (rest := []) ⟨hx, hb, hml, hown, hts⟩ (c_X6_isBlocked l D cI cJ cZ h0 0 mi me dp up dn ma mx mh mg mc mo mr mf mk ml wp wl ru sm HI ki ev (by omega) (by omega) hHI H.size) (cwV 2 hts gX6_echo_X6_isBlocked rfl rfl rfl (by decide +kernel) ⟨Nat.le_of_ble_eq_true rfl, Nat.le_of_ble_eq_true rfl⟩) (pvV hT hP hD [0, 1] rfl rfl 0 rfl rfl) rfl rfl hl.1 rfl (lv_room (Nat.le_of_ble_eq_true rfl)) dX6_echo_37 ⟨Nat.zero_le _, Nat.zero_le _⟩) (fun H locs hP hD hS => ?_)
  refine cb_eq (tgt := 49) hx hb dX6_echo_40 (by decide) (fun c_40 => ?_) (fun c_40 => ?_)
  · refine lv_aload_n hx hb dX6_echo_49 rfl (lv_at hl 1 rfl) ?_
    refine lv_iload_n hx hb dX6_echo_50 rfl (lv_at hl 2 rfl) ?_
    refine lv_iload_n hx hb dX6_echo_51 rfl (lv_at hl 3 rfl) ?_
    refine cr_l (wc := [(h0, .inr (6, [.int (nI 0), .int (nI mi), .int (nI me), .int (nI dp), .int (bI up), .int (nI dn), .ref ma, .ref mx, .ref mh, .ref mg, .ref mc, .ref mo, .ref mr, .ref mf, .long wp, .long wl, .int (nI ru), .int (nI sm), .ref mk, .ref ml])), (ma, .inl (cI, 600, .inl (nA C)))]) (w1 := [(h0, .inr (6, [.int (nI 0), .int (nI mi), .int (nI me), .int (nI dp), .int (bI up), .int (nI dn), .ref ma, .ref mx, .ref mh, .ref mg, .ref mc, .ref mo, .ref mr, .ref mf, .long wp, .long wl, .int (nI ru), .int (nI sm), .ref mk, .ref ml])), (ma, .inl (cI, 600, .inl (nA C)))]) (ws2 := [(h0, .inr (6, [.int (nI 0), .int (nI mi), .int (nI me), .int (nI dp), .int (bI up), .int (nI dn), .ref ma, .ref mx, .ref mh, .ref mg, .ref mc, .ref mo, .ref mr, .ref mf, .long wp, .long wl, .int (nI ru), .int (nI sm), .ref mk, .ref ml])), (mh, .inl (cI, 20, .inl (nA HI))), (ma, .inl (cI, 600, .inl (nA C)))]) hP hD hS hA [0, 2] rfl rfl rfl (va_runV (As := [.int (nI ki), .int (nI ev)]) (rest := []) ⟨hx, hb, hml, hown, hts⟩ (c_X6_echoOf l D cI cJ cZ h0 0 mi me dp up dn ma mx mh mg mc mo mr mf mk ml wp wl ru sm C ki ev (by omega) (by omega) (by omega) H.size) (cwV 2 hts gX6_echo_X6_echoOf rfl rfl rfl (by decide +kernel) ⟨Nat.le_of_ble_eq_true rfl, Nat.le_of_ble_eq_true rfl⟩) (pvV hT hP hD [0, 2] rfl rfl 0 rfl rfl) rfl rfl hl.1 rfl (lv_room (Nat.le_of_ble_eq_true rfl)) dX6_echo_52 ⟨Nat.zero_le _, Nat.zero_le _⟩) (fun H locs hP hD hS => ?_)
    exact fin_l hx hb hr hlocks hP hD hS ((by rw [c_40]; rfl)) dX6_echo_55
  · refine lv_ldc2 (v := -1) hx hb hown hc133 dX6_echo_43 ?_
    refine lv_goto (tgt := 55) hx hb dX6_echo_46 (by decide) ?_
    exact fin_l hx hb hr hlocks hP hD hS ((by rw [c_40]; rfl)) dX6_echo_55
set_option maxHeartbeats 4000000 in
set_option maxRecDepth 100000 in
theorem c_X6_scan (l : Launch) (D : va_G) (cI cJ cZ : ClassId) (h0 : Nat) (thr : Nat) (mi : Nat) (me : Nat) (dp : Nat) (up : Bool) (dn : Nat) (ma : Nat) (mx : Nat) (mh : Nat) (mg : Nat) (mc : Nat) (mo : Nat) (mr : Nat) (mf : Nat) (mk : Nat) (ml : Nat) (wp : Int64) (wl : Int64) (ru : Nat) (sm : Nat) (HI : Nat → Nat) (C : Nat → Nat) (EC : Nat → Int64) (RU : Nat → Nat) (ev : Nat) (hev : ev < 4) (hme : me < 10) (hsm : sm < 30) (hHI : ∀ k, k < 20 → HI k ≤ 9) (sz : Nat) : Met l yX6_scan wsX6_scan ({ frames := 2, cells := 0, slots := 0, locals := 48 } : Room) (va_Pc [.ref h0, .int (nI ev)] (mPre D cI cJ cZ [(h0, .inr (6, [.int (nI thr), .int (nI mi), .int (nI me), .int (nI dp), .int (bI up), .int (nI dn), .ref ma, .ref mx, .ref mh, .ref mg, .ref mc, .ref mo, .ref mr, .ref mf, .long wp, .long wl, .int (nI ru), .int (nI sm), .ref mk, .ref ml])), (mh, .inl (cI, 20, .inl (nA HI))), (ma, .inl (cI, 600, .inl (nA C))), (mk, .inl (cJ, 600, .inr (.inl EC))), (ml, .inl (cI, 30, .inl (nA RU)))] sz)) (Qi9 D (va_A [(h0, .inr (6, [.int (nI thr), .int (nI mi), .int (nI me), .int (nI dp), .int (bI up), .int (nI dn), .ref ma, .ref mx, .ref mh, .ref mg, .ref mc, .ref mo, .ref mr, .ref mf, .long wp, .long wl, .int (nI ru), .int (nI sm), .ref mk, .ref ml])), (mh, .inl (cI, 20, .inl (nA HI))), (ma, .inl (cI, 600, .inl (nA C))), (mk, .inl (cJ, 600, .inr (.inl EC))), (ml, .inl (cI, 30, .inl (nA RU)))] sz) [(h0, .inr (6, [.int (nI 0), .int (nI mi), .int (nI me), .int (nI dp), .int (bI up), .int (nI dn), .ref ma, .ref mx, .ref mh, .ref mg, .ref mc, .ref mo, .ref mr, .ref mf, .long wp, .long wl, .int (nI ru), .int (nI (sm + 1)), .ref mk, .ref ml])), (mh, .inl (cI, 20, .inl (nA HI))), (ma, .inl (cI, 600, .inl (nA C))), (mk, .inl (cJ, 600, .inr (.inl (scM HI C me ev EC sm 20)))), (ml, .inl (cI, 30, .inl (nA (uN RU sm ru))))] (nI (ubk HI ev 20))) 0 0 (va_A [(h0, .inr (6, [.int (nI thr), .int (nI mi), .int (nI me), .int (nI dp), .int (bI up), .int (nI dn), .ref ma, .ref mx, .ref mh, .ref mg, .ref mc, .ref mo, .ref mr, .ref mf, .long wp, .long wl, .int (nI ru), .int (nI sm), .ref mk, .ref ml])), (mh, .inl (cI, 20, .inl (nA HI))), (ma, .inl (cI, 600, .inl (nA C))), (mk, .inl (cJ, 600, .inr (.inl EC))), (ml, .inl (cI, 30, .inl (nA RU)))] sz) := by
  refine Met.ofW (cc := cX6_scan) (maxL := 6) (ret := (some .int)) (by decide) rfl ?_
  intro p e s m args below meth c s₁ B hml hv
  obtain ⟨hargs, hsz, hP, hT, hD0⟩ := hv
  have hx := B.exec
  have hb := B.bytes
  have hr := B.returns
  have hts := atoms_spec (ws := wsX6_scan) B.pre
  have hown : s.vm.findClass RX6 = some m.cls := findClass_of_methodNamed B.named
  have hlocks := B.notSynchronized
  subst hsz
  have hK := hT.1
  have hD := hD0.self (sz := s.heap.size)
  generalize hAe : va_A [(h0, .inr (6, [.int (nI thr), .int (nI mi), .int (nI me), .int (nI dp), .int (bI up), .int (nI dn), .ref ma, .ref mx, .ref mh, .ref mg, .ref mc, .ref mo, .ref mr, .ref mf, .long wp, .long wl, .int (nI ru), .int (nI sm), .ref mk, .ref ml])), (mh, .inl (cI, 20, .inl (nA HI))), (ma, .inl (cI, 600, .inl (nA C))), (mk, .inl (cJ, 600, .inr (.inl EC))), (ml, .inl (cI, 30, .inl (nA RU)))] s.heap.size = A at hD ⊢
  have hA : ∀ q : Nat, s.heap.size ≤ q → A q := fun q h => by rw [← hAe]; exact Or.inr h
  have hS : va_S A s.heap s.heap [] := va_S.rf
  obtain ⟨H, hHe⟩ : ∃ H : Heap, H = s.heap := ⟨_, rfl⟩
  have hS : va_S A s.heap H [] := by rw [hHe]; exact va_S.rf
  rw [← hHe] at hP
  suffices K0 : W p l e (headSpec wsX6_scan ({ frames := 2, cells := 0, slots := 0, locals := 48 } : Room)).room s m args below meth c H [] 0 0 (MQ below (Qi9 D A [(h0, .inr (6, [.int (nI 0), .int (nI mi), .int (nI me), .int (nI dp), .int (bI up), .int (nI dn), .ref ma, .ref mx, .ref mh, .ref mg, .ref mc, .ref mo, .ref mr, .ref mf, .long wp, .long wl, .int (nI ru), .int (nI (sm + 1)), .ref mk, .ref ml])), (mh, .inl (cI, 20, .inl (nA HI))), (ma, .inl (cI, 600, .inl (nA C))), (mk, .inl (cJ, 600, .inr (.inl (scM HI C me ev EC sm 20)))), (ml, .inl (cI, 30, .inl (nA (uN RU sm ru))))] (nI (ubk HI ev 20))) args s 0 0 A) (entryFrame m args 6) by rw [hHe] at K0; exact K0
  refine W.eq (g2 := entryFrame m ([.ref h0, .int (nI ev)] : List Value).toArray 6) (by rw [hargs]) ?_
  have hl := lv_entry ([.ref h0, .int (nI ev)]) (n := 6) (Nat.le_of_ble_eq_true rfl)
  rw [lg_entry_eq]
  generalize (lg_sl ([.ref h0, .int (nI ev)]) ++ List.replicate (6 - (lg_sl ([.ref h0, .int (nI ev)])).length) Slot.unset).toArray = ls at hl ⊢
  have hl : lv_has ls 6 [(0, .ref h0), (1, .int (nI ev))] := hl
  generalize ([] : List Loc) = locs at hS ⊢
  have hinX6 : ∀ w ∈ wsX60, w ∈ wsX6_scan := by decide +kernel
  have hf151 := hts (.fieldLink RX6 151 "BrightbandModel" "scans" "I") (by decide +kernel)
  have hf46 := hts (.fieldLink RX6 46 "BrightbandModel" "ruleOf" "[I") (by decide +kernel)
  have hf40 := hts (.fieldLink RX6 40 "BrightbandModel" "rule" "I") (by decide +kernel)
  have hf43 := hts (.fieldLink RX6 43 "BrightbandModel" "kept" "[J") (by decide +kernel)
  refine lv_iload_n hx hb dX6_scan_0 rfl (lv_at hl 1 rfl) ?_
  refine cr_i (wc := []) (w1 := []) (ws2 := [(h0, .inr (6, [.int (nI thr), .int (nI mi), .int (nI me), .int (nI dp), .int (bI up), .int (nI dn), .ref ma, .ref mx, .ref mh, .ref mg, .ref mc, .ref mo, .ref mr, .ref mf, .long wp, .long wl, .int (nI ru), .int (nI sm), .ref mk, .ref ml])), (mh, .inl (cI, 20, .inl (nA HI))), (ma, .inl (cI, 600, .inl (nA C))), (mk, .inl (cJ, 600, .inr (.inl EC))), (ml, .inl (cI, 30, .inl (nA RU)))]) hP hD hS hA [] rfl rfl rfl (va_runS (As := [.int (nI ev)]) (rest := []) ⟨hx, hb, hml, hown, hts⟩ (c_X6_isElevation_T l D cI cJ cZ ev (by omega) H.size) (va_cwS 1 hts gX6_scan_X6_isElevation rfl rfl rfl (by decide +kernel) ⟨Nat.le_of_ble_eq_true rfl, Nat.le_of_ble_eq_true rfl⟩) (pvS hT hP hD [] rfl rfl) rfl rfl hl.1 rfl (lv_room (Nat.le_of_ble_eq_true rfl)) dX6_scan_1 ⟨Nat.zero_le _, Nat.zero_le _⟩) (fun H locs hP hD hS => ?_)
  refine lv_istore_n (lv' := [(2, .int (bI true)), (0, .ref h0), (1, .int (nI ev))]) hx hb dX6_scan_4 rfl hl (by decide) rfl (fun ls hl => ?_)
  refine lv_aload_n hx hb dX6_scan_5 rfl (lv_at hl 1 rfl) ?_
  refine lv_iload_n hx hb dX6_scan_6 rfl (lv_at hl 0 rfl) ?_
  refine cb_ne (tgt := 14) hx hb dX6_scan_7 (by decide) (fun c_7 => ?_) (fun c_7 => absurd c_7 (by decide))
  refine lv_aload_n hx hb dX6_scan_14 rfl (lv_at hl 1 rfl) ?_
  refine va_get (D := D) (ci := 6) (v := .int (nI sm)) (C := RX6) (T := TX6) (N := 20) hx hb hts hinX6 hown hK hP 0 rfl rfl 17 (by decide) hf151 (fun _ h9 => h9) rfl dX6_scan_15 ?_
  refine lv_bipush (v := nI 30) hx hb dX6_scan_18 (by decide) ?_
  refine ci_ne (tgt := 27) hx hb dX6_scan_20 (by decide) (nT (by omega)) (nT (by omega)) (fun c_20 => ?_) (fun c_20 => by omega)
  refine lv_iconst (v := nI 0) hx hb dX6_scan_27 (by decide) ?_
  refine cr_i (wc := [(h0, .inr (6, [.int (nI thr), .int (nI mi), .int (nI me), .int (nI dp), .int (bI up), .int (nI dn), .ref ma, .ref mx, .ref mh, .ref mg, .ref mc, .ref mo, .ref mr, .ref mf, .long wp, .long wl, .int (nI ru), .int (nI sm), .ref mk, .ref ml]))]) (w1 := [(h0, .inr (6, [.int (nI 0), .int (nI mi), .int (nI me), .int (nI dp), .int (bI up), .int (nI dn), .ref ma, .ref mx, .ref mh, .ref mg, .ref mc, .ref mo, .ref mr, .ref mf, .long wp, .long wl, .int (nI ru), .int (nI sm), .ref mk, .ref ml]))]) (ws2 := [(h0, .inr (6, [.int (nI 0), .int (nI mi), .int (nI me), .int (nI dp), .int (bI up), .int (nI dn), .ref ma, .ref mx, .ref mh, .ref mg, .ref mc, .ref mo, .ref mr, .ref mf, .long wp, .long wl, .int (nI ru), .int (nI sm), .ref mk, .ref ml])), (mh, .inl (cI, 20, .inl (nA HI))), (ma, .inl (cI, 600, .inl (nA C))), (mk, .inl (cJ, 600, .inr (.inl EC))), (ml, .inl (cI, 30, .inl (nA RU)))]) hP hD hS hA [0] rfl rfl rfl (va_runV (As := [.int (nI 0)]) (rest := []) ⟨hx, hb, hml, hown, hts⟩ (c_X6_goesWell_ok l D cI cJ cZ h0 thr mi me dp up dn ma mx mh mg mc mo mr mf mk ml wp wl ru sm H.size) (cwV 1 hts gX6_scan_X6_goesWell rfl rfl rfl (by decide +kernel) ⟨Nat.le_of_ble_eq_true rfl, Nat.le_of_ble_eq_true rfl⟩) (pvV hT hP hD [0] rfl rfl 0 rfl rfl) rfl rfl hl.1 rfl (lv_room (Nat.le_of_ble_eq_true rfl)) dX6_scan_28 ⟨Nat.zero_le _, Nat.zero_le _⟩) (fun H locs hP hD hS => ?_)
  refine cb_ne (tgt := 36) hx hb dX6_scan_31 (by decide) (fun c_31 => ?_) (fun c_31 => absurd c_31 (by decide))
  refine lv_iconst (v := nI 0) hx hb dX6_scan_36 (by decide) ?_
  refine lv_istore_n (lv' := [(3, .int (nI 0)), (2, .int (bI true)), (0, .ref h0), (1, .int (nI ev))]) hx hb dX6_scan_37 rfl hl (by decide) rfl (fun ls hl => ?_)
  refine lv_iconst (v := nI 0) hx hb dX6_scan_38 (by decide) ?_
  refine lv_istore (lv' := [(4, .int (nI 0)), (3, .int (nI 0)), (2, .int (bI true)), (0, .ref h0), (1, .int (nI ev))]) hx hb dX6_scan_39 hl (by decide) rfl (fun ls hl => ?_)
  have lp41 : ∀ (n i : Nat), i + n = 20 → ∀ (H : Heap) (locs : List Loc), va_P D vwCl [(h0, .inr (6, [.int (nI 0), .int (nI mi), .int (nI me), .int (nI dp), .int (bI up), .int (nI dn), .ref ma, .ref mx, .ref mh, .ref mg, .ref mc, .ref mo, .ref mr, .ref mf, .long wp, .long wl, .int (nI ru), .int (nI sm), .ref mk, .ref ml])), (mh, .inl (cI, 20, .inl (nA HI))), (ma, .inl (cI, 600, .inl (nA C))), (mk, .inl (cJ, 600, .inr (.inl (scM HI C me ev EC sm i)))), (ml, .inl (cI, 30, .inl (nA RU)))] H → va_D A [(h0, .inr (6, [.int (nI 0), .int (nI mi), .int (nI me), .int (nI dp), .int (bI up), .int (nI dn), .ref ma, .ref mx, .ref mh, .ref mg, .ref mc, .ref mo, .ref mr, .ref mf, .long wp, .long wl, .int (nI ru), .int (nI sm), .ref mk, .ref ml])), (mh, .inl (cI, 20, .inl (nA HI))), (ma, .inl (cI, 600, .inl (nA C))), (mk, .inl (cJ, 600, .inr (.inl (scM HI C me ev EC sm i)))), (ml, .inl (cI, 30, .inl (nA RU)))] → va_S A s.heap H locs → ∀ (ls : Array Slot), lv_has ls 6 [(0, .ref h0), (1, .int (nI ev)), (3, .int (nI (ubk HI ev i))), (4, .int (nI i))] → W p l e (headSpec wsX6_scan ({ frames := 2, cells := 0, slots := 0, locals := 48 } : Room)).room s m args below meth c H locs 0 0 (MQ below (Qi9 D A [(h0, .inr (6, [.int (nI 0), .int (nI mi), .int (nI me), .int (nI dp), .int (bI up), .int (nI dn), .ref ma, .ref mx, .ref mh, .ref mg, .ref mc, .ref mo, .ref mr, .ref mf, .long wp, .long wl, .int (nI ru), .int (nI (sm + 1)), .ref mk, .ref ml])), (mh, .inl (cI, 20, .inl (nA HI))), (ma, .inl (cI, 600, .inl (nA C))), (mk, .inl (cJ, 600, .inr (.inl (scM HI C me ev EC sm 20)))), (ml, .inl (cI, 30, .inl (nA (uN RU sm ru))))] (nI (ubk HI ev 20))) args s 0 0 A) (F0 m 41 ls []) := by
    intro n
    induction n with
    | zero =>
      intro i hcnti H locs hP hD hS ls hl
      obtain rfl : 20 = i := by omega
      refine lv_iload hx hb dX6_scan_41 (lv_at hl 3 rfl) ?_
      refine lv_bipush (v := nI 20) hx hb dX6_scan_43 (by decide) ?_
      refine ci_ge (tgt := 107) hx hb dX6_scan_45 (by decide) (nT (by omega)) (nT (by omega)) (fun c_45 => ?_) (fun c_45 => by omega)
      refine lv_aload_n hx hb dX6_scan_107 rfl (lv_at hl 0 rfl) ?_
      refine va_get (D := D) (ci := 6) (v := .ref ml) (C := RX6) (T := TX6) (N := 20) hx hb hts hinX6 hown hK hP 0 rfl rfl 19 (by decide) hf46 (fun _ h9 => h9) rfl dX6_scan_108 ?_
      refine lv_aload_n hx hb dX6_scan_111 rfl (lv_at hl 0 rfl) ?_
      refine va_get (D := D) (ci := 6) (v := .int (nI sm)) (C := RX6) (T := TX6) (N := 20) hx hb hts hinX6 hown hK hP 0 rfl rfl 17 (by decide) hf151 (fun _ h9 => h9) rfl dX6_scan_112 ?_
      refine lv_aload_n hx hb dX6_scan_115 rfl (lv_at hl 0 rfl) ?_
      refine va_get (D := D) (ci := 6) (v := .int (nI ru)) (C := RX6) (T := TX6) (N := 20) hx hb hts hinX6 hown hK hP 0 rfl rfl 16 (by decide) hf40 (fun _ h9 => h9) rfl dX6_scan_116 ?_
      refine ast_N (x := ru) hx hb hK hP hD hS 4 0 rfl rfl sm rfl (by omega) (Nat.le_of_ble_eq_true rfl) dX6_scan_119 (fun H locs hP hD hS => ?_)
      have hP : va_P D vwCl [(h0, .inr (6, [.int (nI 0), .int (nI mi), .int (nI me), .int (nI dp), .int (bI up), .int (nI dn), .ref ma, .ref mx, .ref mh, .ref mg, .ref mc, .ref mo, .ref mr, .ref mf, .long wp, .long wl, .int (nI ru), .int (nI sm), .ref mk, .ref ml])), (mh, .inl (cI, 20, .inl (nA HI))), (ma, .inl (cI, 600, .inl (nA C))), (mk, .inl (cJ, 600, .inr (.inl (scM HI C me ev EC sm 20)))), (ml, .inl (cI, 30, .inl (nA (uN RU sm ru))))] H := hP
      have hD : va_D A [(h0, .inr (6, [.int (nI 0), .int (nI mi), .int (nI me), .int (nI dp), .int (bI up), .int (nI dn), .ref ma, .ref mx, .ref mh, .ref mg, .ref mc, .ref mo, .ref mr, .ref mf, .long wp, .long wl, .int (nI ru), .int (nI sm), .ref mk, .ref ml])), (mh, .inl (cI, 20, .inl (nA HI))), (ma, .inl (cI, 600, .inl (nA C))), (mk, .inl (cJ, 600, .inr (.inl (scM HI C me ev EC sm 20)))), (ml, .inl (cI, 30, .inl (nA (uN RU sm ru))))] := hD
      refine lv_aload_n hx hb dX6_scan_120 rfl (lv_at hl 0 rfl) ?_
      refine lv_dup hx hb dX6_scan_121 rfl ?_
      refine va_get (D := D) (ci := 6) (v := .int (nI sm)) (C := RX6) (T := TX6) (N := 20) hx hb hts hinX6 hown hK hP 0 rfl rfl 17 (by decide) hf151 (fun _ h9 => h9) rfl dX6_scan_122 ?_
      refine lv_iconst (v := nI 1) hx hb dX6_scan_125 (by decide) ?_
      refine lv_iadd hx hb dX6_scan_126 ?_
      refine tp_i (nI_add _ _) ?_
      refine va_put (D := D) (ci := 6) (v := .int (nI (sm + 1))) (ty := .int) (C := RX6) (T := TX6) (N := 20) hx hb hts hinX6 tyX6 tyX6_ok nmX6 hown hK hP hD hS 0 rfl rfl 17 (by decide) hf151 (fun _ h9 => h9) rfl (by decide +kernel) rfl rfl (Nat.le_of_ble_eq_true rfl) dX6_scan_127 (fun H locs hP hD hS => ?_)
      have hP : va_P D vwCl [(h0, .inr (6, [.int (nI 0), .int (nI mi), .int (nI me), .int (nI dp), .int (bI up), .int (nI dn), .ref ma, .ref mx, .ref mh, .ref mg, .ref mc, .ref mo, .ref mr, .ref mf, .long wp, .long wl, .int (nI ru), .int (nI (sm + 1)), .ref mk, .ref ml])), (mh, .inl (cI, 20, .inl (nA HI))), (ma, .inl (cI, 600, .inl (nA C))), (mk, .inl (cJ, 600, .inr (.inl (scM HI C me ev EC sm 20)))), (ml, .inl (cI, 30, .inl (nA (uN RU sm ru))))] H := hP
      have hD : va_D A [(h0, .inr (6, [.int (nI 0), .int (nI mi), .int (nI me), .int (nI dp), .int (bI up), .int (nI dn), .ref ma, .ref mx, .ref mh, .ref mg, .ref mc, .ref mo, .ref mr, .ref mf, .long wp, .long wl, .int (nI ru), .int (nI (sm + 1)), .ref mk, .ref ml])), (mh, .inl (cI, 20, .inl (nA HI))), (ma, .inl (cI, 600, .inl (nA C))), (mk, .inl (cJ, 600, .inr (.inl (scM HI C me ev EC sm 20)))), (ml, .inl (cI, 30, .inl (nA (uN RU sm ru))))] := hD
      refine lv_iload_n hx hb dX6_scan_130 rfl (lv_at hl 2 rfl) ?_
      exact fin_i hx hb hr hlocks hP hD hS (rfl) dX6_scan_131
    | succ n ih =>
      intro i hcnti H locs hP hD hS ls hl
      have hlti : i < 20 := by omega
      refine lv_iload hx hb dX6_scan_41 (lv_at hl 3 rfl) ?_
      refine lv_bipush (v := nI 20) hx hb dX6_scan_43 (by decide) ?_
      refine ci_ge (tgt := 107) hx hb dX6_scan_45 (by decide) (nT (by omega)) (nT (by omega)) (fun c_45 => by omega) (fun c_45 => ?_)
      refine lv_aload_n hx hb dX6_scan_48 rfl (lv_at hl 0 rfl) ?_
      refine lv_iload hx hb dX6_scan_49 (lv_at hl 3 rfl) ?_
      refine lv_iload_n hx hb dX6_scan_51 rfl (lv_at hl 1 rfl) ?_
      refine cr_i (wc := [(h0, .inr (6, [.int (nI 0), .int (nI mi), .int (nI me), .int (nI dp), .int (bI up), .int (nI dn), .ref ma, .ref mx, .ref mh, .ref mg, .ref mc, .ref mo, .ref mr, .ref mf, .long wp, .long wl, .int (nI ru), .int (nI sm), .ref mk, .ref ml])), (mh, .inl (cI, 20, .inl (nA HI)))]) (w1 := [(h0, .inr (6, [.int (nI 0), .int (nI mi), .int (nI me), .int (nI dp), .int (bI up), .int (nI dn), .ref ma, .ref mx, .ref mh, .ref mg, .ref mc, .ref mo, .ref mr, .ref mf, .long wp, .long wl, .int (nI ru), .int (nI sm), .ref mk, .ref ml])), (mh, .inl (cI, 20, .inl (nA HI)))]) (ws2 := [(h0, .inr (6, [.int (nI 0), .int (nI mi), .int (nI me), .int (nI dp), .int (bI up), .int (nI dn), .ref ma, .ref mx, .ref mh, .ref mg, .ref mc, .ref mo, .ref mr, .ref mf, .long wp, .long wl, .int (nI ru), .int (nI sm), .ref mk, .ref ml])), (mh, .inl (cI, 20, .inl (nA HI))), (ma, .inl (cI, 600, .inl (nA C))), (mk, .inl (cJ, 600, .inr (.inl (scM HI C me ev EC sm i)))), (ml, .inl (cI, 30, .inl (nA RU)))]) hP hD hS hA [0, 1] rfl rfl rfl (va_runV (As := [.int (nI i), .int (nI ev)]) (rest := []) ⟨hx, hb, hml, hown, hts⟩ (c_X6_isBlocked l D cI cJ cZ h0 0 mi me dp up dn ma mx mh mg mc mo mr mf mk ml wp wl ru sm HI i ev (by omega) (by omega) hHI H.size) (cwV 2 hts gX6_scan_X6_isBlocked rfl rfl rfl (by decide +kernel) ⟨Nat.le_of_ble_eq_true rfl, Nat.le_of_ble_eq_true rfl⟩) (pvV hT hP hD [0, 1] rfl rfl 0 rfl rfl) rfl rfl hl.1 rfl (lv_room (Nat.le_of_ble_eq_true rfl)) dX6_scan_52 ⟨Nat.zero_le _, Nat.zero_le _⟩) (fun H locs hP hD hS => ?_)
      refine lv_istore (lv' := [(5, .int (bI (blk HI ev (i + 1)))), (0, .ref h0), (1, .int (nI ev)), (3, .int (nI (ubk HI ev i))), (4, .int (nI i))]) hx hb dX6_scan_55 hl (by decide) rfl (fun ls hl => ?_)
      refine lv_aload_n hx hb dX6_scan_57 rfl (lv_at hl 1 rfl) ?_
      refine va_get (D := D) (ci := 6) (v := .ref mk) (C := RX6) (T := TX6) (N := 20) hx hb hts hinX6 hown hK hP 0 rfl rfl 18 (by decide) hf43 (fun _ h9 => h9) rfl dX6_scan_58 ?_
      refine lv_bipush (v := nI 20) hx hb dX6_scan_61 (by decide) ?_
      refine lv_aload_n hx hb dX6_scan_63 rfl (lv_at hl 1 rfl) ?_
      refine va_get (D := D) (ci := 6) (v := .int (nI sm)) (C := RX6) (T := TX6) (N := 20) hx hb hts hinX6 hown hK hP 0 rfl rfl 17 (by decide) hf151 (fun _ h9 => h9) rfl dX6_scan_64 ?_
      refine lv_imul hx hb dX6_scan_67 ?_
      refine tp_i (pk_mul _ _) ?_
      refine lv_iload hx hb dX6_scan_68 (lv_at hl 4 rfl) ?_
      refine lv_iadd hx hb dX6_scan_70 ?_
      refine tp_i (nI_add _ _) ?_
      refine lv_iload hx hb dX6_scan_71 (lv_at hl 0 rfl) ?_
      refine cb_eq (tgt := 80) hx hb dX6_scan_73 (by decide) (fun c_73 => ?_) (fun c_73 => ?_)
      · have hs1 : scM HI C me ev EC sm (i + 1) = uN (scM HI C me ev EC sm i) (20 * sm + i) (em9 C me i ev) := by show uN _ _ (if blk HI ev (i + 1) = true then 0 else em9 C me i ev) = _; rw [if_neg (by rw [c_73]; decide)]
        have hs2 : ubk HI ev (i + 1) = ubk HI ev i + 1 := by show ubk HI ev i + (if blk HI ev (i + 1) = true then 0 else 1) = _; rw [if_neg (by rw [c_73]; decide)]
        refine lv_aload_n hx hb dX6_scan_80 rfl (lv_at hl 1 rfl) ?_
        refine lv_iload hx hb dX6_scan_81 (lv_at hl 4 rfl) ?_
        refine lv_iload_n hx hb dX6_scan_83 rfl (lv_at hl 2 rfl) ?_
        refine cr_l (wc := [(h0, .inr (6, [.int (nI 0), .int (nI mi), .int (nI me), .int (nI dp), .int (bI up), .int (nI dn), .ref ma, .ref mx, .ref mh, .ref mg, .ref mc, .ref mo, .ref mr, .ref mf, .long wp, .long wl, .int (nI ru), .int (nI sm), .ref mk, .ref ml])), (ma, .inl (cI, 600, .inl (nA C)))]) (w1 := [(h0, .inr (6, [.int (nI 0), .int (nI mi), .int (nI me), .int (nI dp), .int (bI up), .int (nI dn), .ref ma, .ref mx, .ref mh, .ref mg, .ref mc, .ref mo, .ref mr, .ref mf, .long wp, .long wl, .int (nI ru), .int (nI sm), .ref mk, .ref ml])), (ma, .inl (cI, 600, .inl (nA C)))]) (ws2 := [(h0, .inr (6, [.int (nI 0), .int (nI mi), .int (nI me), .int (nI dp), .int (bI up), .int (nI dn), .ref ma, .ref mx, .ref mh, .ref mg, .ref mc, .ref mo, .ref mr, .ref mf, .long wp, .long wl, .int (nI ru), .int (nI sm), .ref mk, .ref ml])), (mh, .inl (cI, 20, .inl (nA HI))), (ma, .inl (cI, 600, .inl (nA C))), (mk, .inl (cJ, 600, .inr (.inl (scM HI C me ev EC sm i)))), (ml, .inl (cI, 30, .inl (nA RU)))]) hP hD hS hA [0, 2] rfl rfl rfl (va_runV (As := [.int (nI i), .int (nI ev)]) (rest := [.int (nI ((20 * sm) + i)), .ref mk]) ⟨hx, hb, hml, hown, hts⟩ (c_X6_echoOf l D cI cJ cZ h0 0 mi me dp up dn ma mx mh mg mc mo mr mf mk ml wp wl ru sm C i ev (by omega) (by omega) (by omega) H.size) (cwV 2 hts gX6_scan_X6_echoOf rfl rfl rfl (by decide +kernel) ⟨Nat.le_of_ble_eq_true rfl, Nat.le_of_ble_eq_true rfl⟩) (pvV hT hP hD [0, 2] rfl rfl 0 rfl rfl) rfl rfl hl.1 rfl (lv_room (Nat.le_of_ble_eq_true rfl)) dX6_scan_84 ⟨Nat.zero_le _, Nat.zero_le _⟩) (fun H locs hP hD hS => ?_)
        refine ast_L (x := em9 C me i ev) hx hb hK hP hD hS 3 1 rfl rfl ((20 * sm) + i) rfl (by omega) (Nat.le_of_ble_eq_true rfl) dX6_scan_87 (fun H locs hP hD hS => ?_)
        have hP : va_P D vwCl [(h0, .inr (6, [.int (nI 0), .int (nI mi), .int (nI me), .int (nI dp), .int (bI up), .int (nI dn), .ref ma, .ref mx, .ref mh, .ref mg, .ref mc, .ref mo, .ref mr, .ref mf, .long wp, .long wl, .int (nI ru), .int (nI sm), .ref mk, .ref ml])), (mh, .inl (cI, 20, .inl (nA HI))), (ma, .inl (cI, 600, .inl (nA C))), (mk, .inl (cJ, 600, .inr (.inl (uN (scM HI C me ev EC sm i) ((20 * sm) + i) (em9 C me i ev))))), (ml, .inl (cI, 30, .inl (nA RU)))] H := hP
        have hD : va_D A [(h0, .inr (6, [.int (nI 0), .int (nI mi), .int (nI me), .int (nI dp), .int (bI up), .int (nI dn), .ref ma, .ref mx, .ref mh, .ref mg, .ref mc, .ref mo, .ref mr, .ref mf, .long wp, .long wl, .int (nI ru), .int (nI sm), .ref mk, .ref ml])), (mh, .inl (cI, 20, .inl (nA HI))), (ma, .inl (cI, 600, .inl (nA C))), (mk, .inl (cJ, 600, .inr (.inl (uN (scM HI C me ev EC sm i) ((20 * sm) + i) (em9 C me i ev))))), (ml, .inl (cI, 30, .inl (nA RU)))] := hD
        refine lv_iload_n hx hb dX6_scan_88 rfl (lv_at hl 3 rfl) ?_
        refine lv_iload hx hb dX6_scan_89 (lv_at hl 0 rfl) ?_
        refine cb_eq (tgt := 98) hx hb dX6_scan_91 (by decide) (fun c_91 => ?_) (fun c_91 => by rw [c_73] at c_91; cases c_91)
        refine lv_iconst (v := nI 1) hx hb dX6_scan_98 (by decide) ?_
        refine lv_iadd hx hb dX6_scan_99 ?_
        refine tp_i (nI_add _ _) ?_
        refine lv_istore_n (lv' := [(3, .int (nI ((ubk HI ev i) + 1))), (5, .int (bI (blk HI ev (i + 1)))), (0, .ref h0), (1, .int (nI ev)), (4, .int (nI i))]) hx hb dX6_scan_100 rfl hl (by decide) rfl (fun ls hl => ?_)
        refine lv_iinc (v := nI (i + 1)) (lv' := [(4, .int (nI (i + 1))), (3, .int (nI ((ubk HI ev i) + 1))), (5, .int (bI (blk HI ev (i + 1)))), (0, .ref h0), (1, .int (nI ev))]) hx hb dX6_scan_101 hl (k := 4) rfl (n_inc i) (by decide) rfl (fun ls hl => ?_)
        refine lv_goto (tgt := 41) hx hb dX6_scan_104 (by decide) ?_
        have hwe : ([(h0, .inr (6, [.int (nI 0), .int (nI mi), .int (nI me), .int (nI dp), .int (bI up), .int (nI dn), .ref ma, .ref mx, .ref mh, .ref mg, .ref mc, .ref mo, .ref mr, .ref mf, .long wp, .long wl, .int (nI ru), .int (nI sm), .ref mk, .ref ml])), (mh, .inl (cI, 20, .inl (nA HI))), (ma, .inl (cI, 600, .inl (nA C))), (mk, .inl (cJ, 600, .inr (.inl (scM HI C me ev EC sm (i + 1))))), (ml, .inl (cI, 30, .inl (nA RU)))] : va_W) = [(h0, .inr (6, [.int (nI 0), .int (nI mi), .int (nI me), .int (nI dp), .int (bI up), .int (nI dn), .ref ma, .ref mx, .ref mh, .ref mg, .ref mc, .ref mo, .ref mr, .ref mf, .long wp, .long wl, .int (nI ru), .int (nI sm), .ref mk, .ref ml])), (mh, .inl (cI, 20, .inl (nA HI))), (ma, .inl (cI, 600, .inl (nA C))), (mk, .inl (cJ, 600, .inr (.inl (uN (scM HI C me ev EC sm i) ((20 * sm) + i) (em9 C me i ev))))), (ml, .inl (cI, 30, .inl (nA RU)))] := (by rw [hs1])
        have hle : ([(0, .ref h0), (1, .int (nI ev)), (3, .int (nI (ubk HI ev (i + 1)))), (4, .int (nI (i + 1)))] : List (Nat × Value)) = [(0, .ref h0), (1, .int (nI ev)), (3, .int (nI ((ubk HI ev i) + 1))), (4, .int (nI (i + 1)))] := (by rw [hs2])
        exact ih (i + 1) (by omega) H locs (by rw [hwe]; exact hP) (by rw [hwe]; exact hD) hS ls (by rw [hle]; exact lv_sub hl [3, 4, 1, 0] rfl)
      · have hs1 : scM HI C me ev EC sm (i + 1) = uN (scM HI C me ev EC sm i) (20 * sm + i) (0) := by show uN _ _ (if blk HI ev (i + 1) = true then 0 else em9 C me i ev) = _; rw [if_pos c_73]
        have hs2 : ubk HI ev (i + 1) = ubk HI ev i + 0 := by show ubk HI ev i + (if blk HI ev (i + 1) = true then 0 else 1) = _; rw [if_pos c_73]
        refine lv_lconst (v := 0) hx hb dX6_scan_76 (by decide) ?_
        refine lv_goto (tgt := 87) hx hb dX6_scan_77 (by decide) ?_
        refine ast_L (x := 0) hx hb hK hP hD hS 3 1 rfl rfl ((20 * sm) + i) rfl (by omega) (Nat.le_of_ble_eq_true rfl) dX6_scan_87 (fun H locs hP hD hS => ?_)
        have hP : va_P D vwCl [(h0, .inr (6, [.int (nI 0), .int (nI mi), .int (nI me), .int (nI dp), .int (bI up), .int (nI dn), .ref ma, .ref mx, .ref mh, .ref mg, .ref mc, .ref mo, .ref mr, .ref mf, .long wp, .long wl, .int (nI ru), .int (nI sm), .ref mk, .ref ml])), (mh, .inl (cI, 20, .inl (nA HI))), (ma, .inl (cI, 600, .inl (nA C))), (mk, .inl (cJ, 600, .inr (.inl (uN (scM HI C me ev EC sm i) ((20 * sm) + i) 0)))), (ml, .inl (cI, 30, .inl (nA RU)))] H := hP
        have hD : va_D A [(h0, .inr (6, [.int (nI 0), .int (nI mi), .int (nI me), .int (nI dp), .int (bI up), .int (nI dn), .ref ma, .ref mx, .ref mh, .ref mg, .ref mc, .ref mo, .ref mr, .ref mf, .long wp, .long wl, .int (nI ru), .int (nI sm), .ref mk, .ref ml])), (mh, .inl (cI, 20, .inl (nA HI))), (ma, .inl (cI, 600, .inl (nA C))), (mk, .inl (cJ, 600, .inr (.inl (uN (scM HI C me ev EC sm i) ((20 * sm) + i) 0)))), (ml, .inl (cI, 30, .inl (nA RU)))] := hD
        refine lv_iload_n hx hb dX6_scan_88 rfl (lv_at hl 3 rfl) ?_
        refine lv_iload hx hb dX6_scan_89 (lv_at hl 0 rfl) ?_
        refine cb_eq (tgt := 98) hx hb dX6_scan_91 (by decide) (fun c_91 => by rw [c_73] at c_91; cases c_91) (fun c_91 => ?_)
        refine lv_iconst (v := nI 0) hx hb dX6_scan_94 (by decide) ?_
        refine lv_goto (tgt := 99) hx hb dX6_scan_95 (by decide) ?_
        refine lv_iadd hx hb dX6_scan_99 ?_
        refine tp_i (nI_add _ _) ?_
        refine lv_istore_n (lv' := [(3, .int (nI ((ubk HI ev i) + 0))), (5, .int (bI (blk HI ev (i + 1)))), (0, .ref h0), (1, .int (nI ev)), (4, .int (nI i))]) hx hb dX6_scan_100 rfl hl (by decide) rfl (fun ls hl => ?_)
        refine lv_iinc (v := nI (i + 1)) (lv' := [(4, .int (nI (i + 1))), (3, .int (nI ((ubk HI ev i) + 0))), (5, .int (bI (blk HI ev (i + 1)))), (0, .ref h0), (1, .int (nI ev))]) hx hb dX6_scan_101 hl (k := 4) rfl (n_inc i) (by decide) rfl (fun ls hl => ?_)
        refine lv_goto (tgt := 41) hx hb dX6_scan_104 (by decide) ?_
        have hwe : ([(h0, .inr (6, [.int (nI 0), .int (nI mi), .int (nI me), .int (nI dp), .int (bI up), .int (nI dn), .ref ma, .ref mx, .ref mh, .ref mg, .ref mc, .ref mo, .ref mr, .ref mf, .long wp, .long wl, .int (nI ru), .int (nI sm), .ref mk, .ref ml])), (mh, .inl (cI, 20, .inl (nA HI))), (ma, .inl (cI, 600, .inl (nA C))), (mk, .inl (cJ, 600, .inr (.inl (scM HI C me ev EC sm (i + 1))))), (ml, .inl (cI, 30, .inl (nA RU)))] : va_W) = [(h0, .inr (6, [.int (nI 0), .int (nI mi), .int (nI me), .int (nI dp), .int (bI up), .int (nI dn), .ref ma, .ref mx, .ref mh, .ref mg, .ref mc, .ref mo, .ref mr, .ref mf, .long wp, .long wl, .int (nI ru), .int (nI sm), .ref mk, .ref ml])), (mh, .inl (cI, 20, .inl (nA HI))), (ma, .inl (cI, 600, .inl (nA C))), (mk, .inl (cJ, 600, .inr (.inl (uN (scM HI C me ev EC sm i) ((20 * sm) + i) 0)))), (ml, .inl (cI, 30, .inl (nA RU)))] := (by rw [hs1])
        have hle : ([(0, .ref h0), (1, .int (nI ev)), (3, .int (nI (ubk HI ev (i + 1)))), (4, .int (nI (i + 1)))] : List (Nat × Value)) = [(0, .ref h0), (1, .int (nI ev)), (3, .int (nI ((ubk HI ev i) + 0))), (4, .int (nI (i + 1)))] := (by rw [hs2])
        exact ih (i + 1) (by omega) H locs (by rw [hwe]; exact hP) (by rw [hwe]; exact hD) hS ls (by rw [hle]; exact lv_sub hl [3, 4, 1, 0] rfl)
  have hwe : ([(h0, .inr (6, [.int (nI 0), .int (nI mi), .int (nI me), .int (nI dp), .int (bI up), .int (nI dn), .ref ma, .ref mx, .ref mh, .ref mg, .ref mc, .ref mo, .ref mr, .ref mf, .long wp, .long wl, .int (nI ru), .int (nI sm), .ref mk, .ref ml])), (mh, .inl (cI, 20, .inl (nA HI))), (ma, .inl (cI, 600, .inl (nA C))), (mk, .inl (cJ, 600, .inr (.inl (scM HI C me ev EC sm 0)))), (ml, .inl (cI, 30, .inl (nA RU)))] : va_W) = [(h0, .inr (6, [.int (nI 0), .int (nI mi), .int (nI me), .int (nI dp), .int (bI up), .int (nI dn), .ref ma, .ref mx, .ref mh, .ref mg, .ref mc, .ref mo, .ref mr, .ref mf, .long wp, .long wl, .int (nI ru), .int (nI sm), .ref mk, .ref ml])), (mh, .inl (cI, 20, .inl (nA HI))), (ma, .inl (cI, 600, .inl (nA C))), (mk, .inl (cJ, 600, .inr (.inl EC))), (ml, .inl (cI, 30, .inl (nA RU)))] := rfl
  have hle : ([(0, .ref h0), (1, .int (nI ev)), (3, .int (nI (ubk HI ev 0))), (4, .int (nI 0))] : List (Nat × Value)) = [(0, .ref h0), (1, .int (nI ev)), (3, .int (nI 0)), (4, .int (nI 0))] := rfl
  exact lp41 20 0 (by omega) H locs (by rw [hwe]; exact hP) (by rw [hwe]; exact hD) hS ls (by rw [hle]; exact lv_sub hl [3, 4, 1, 0] rfl)
set_option maxHeartbeats 4000000 in
set_option maxRecDepth 100000 in
theorem c_X6_rain (l : Launch) (D : va_G) (cI cJ cZ : ClassId) (h0 : Nat) (thr : Nat) (mi : Nat) (me : Nat) (dp : Nat) (up : Bool) (dn : Nat) (ma : Nat) (mx : Nat) (mh : Nat) (mg : Nat) (mc : Nat) (mo : Nat) (mr : Nat) (mf : Nat) (mk : Nat) (ml : Nat) (wp : Int64) (wl : Int64) (ru : Nat) (sm : Nat) (EC : Nat → Int64) (RU : Nat → Nat) (ki : Nat) (hki : ki < 20) (hsm : sm ≤ 30) (hRU : ∀ k, k < sm → 1 ≤ RU k ∧ RU k ≤ 1000) (sz : Nat) : Met l yX6_rain wsX6_rain ({ frames := 2, cells := 0, slots := 0, locals := 42 } : Room) (va_Pc [.ref h0, .int (nI ki)] (mPre D cI cJ cZ [(h0, .inr (6, [.int (nI thr), .int (nI mi), .int (nI me), .int (nI dp), .int (bI up), .int (nI dn), .ref ma, .ref mx, .ref mh, .ref mg, .ref mc, .ref mo, .ref mr, .ref mf, .long wp, .long wl, .int (nI ru), .int (nI sm), .ref mk, .ref ml])), (mk, .inl (cJ, 600, .inr (.inl EC))), (ml, .inl (cI, 30, .inl (nA RU)))] sz)) (Ql9 D (va_A [(h0, .inr (6, [.int (nI thr), .int (nI mi), .int (nI me), .int (nI dp), .int (bI up), .int (nI dn), .ref ma, .ref mx, .ref mh, .ref mg, .ref mc, .ref mo, .ref mr, .ref mf, .long wp, .long wl, .int (nI ru), .int (nI sm), .ref mk, .ref ml])), (mk, .inl (cJ, 600, .inr (.inl EC))), (ml, .inl (cI, 30, .inl (nA RU)))] sz) [(h0, .inr (6, [.int (nI 0), .int (nI mi), .int (nI me), .int (nI dp), .int (bI up), .int (nI dn), .ref ma, .ref mx, .ref mh, .ref mg, .ref mc, .ref mo, .ref mr, .ref mf, .long wp, .long wl, .int (nI ru), .int (nI sm), .ref mk, .ref ml])), (mk, .inl (cJ, 600, .inr (.inl EC))), (ml, .inl (cI, 30, .inl (nA RU)))] (rnS EC RU ki sm)) 0 0 (va_A [(h0, .inr (6, [.int (nI thr), .int (nI mi), .int (nI me), .int (nI dp), .int (bI up), .int (nI dn), .ref ma, .ref mx, .ref mh, .ref mg, .ref mc, .ref mo, .ref mr, .ref mf, .long wp, .long wl, .int (nI ru), .int (nI sm), .ref mk, .ref ml])), (mk, .inl (cJ, 600, .inr (.inl EC))), (ml, .inl (cI, 30, .inl (nA RU)))] sz) := by
  refine Met.ofW (cc := cX6_rain) (maxL := 5) (ret := (some .long)) (by decide) rfl ?_
  intro p e s m args below meth c s₁ B hml hv
  obtain ⟨hargs, hsz, hP, hT, hD0⟩ := hv
  have hx := B.exec
  have hb := B.bytes
  have hr := B.returns
  have hts := atoms_spec (ws := wsX6_rain) B.pre
  have hown : s.vm.findClass RX6 = some m.cls := findClass_of_methodNamed B.named
  have hlocks := B.notSynchronized
  subst hsz
  have hK := hT.1
  have hD := hD0.self (sz := s.heap.size)
  generalize hAe : va_A [(h0, .inr (6, [.int (nI thr), .int (nI mi), .int (nI me), .int (nI dp), .int (bI up), .int (nI dn), .ref ma, .ref mx, .ref mh, .ref mg, .ref mc, .ref mo, .ref mr, .ref mf, .long wp, .long wl, .int (nI ru), .int (nI sm), .ref mk, .ref ml])), (mk, .inl (cJ, 600, .inr (.inl EC))), (ml, .inl (cI, 30, .inl (nA RU)))] s.heap.size = A at hD ⊢
  have hA : ∀ q : Nat, s.heap.size ≤ q → A q := fun q h => by rw [← hAe]; exact Or.inr h
  have hS : va_S A s.heap s.heap [] := va_S.rf
  obtain ⟨H, hHe⟩ : ∃ H : Heap, H = s.heap := ⟨_, rfl⟩
  have hS : va_S A s.heap H [] := by rw [hHe]; exact va_S.rf
  rw [← hHe] at hP
  suffices K0 : W p l e (headSpec wsX6_rain ({ frames := 2, cells := 0, slots := 0, locals := 42 } : Room)).room s m args below meth c H [] 0 0 (MQ below (Ql9 D A [(h0, .inr (6, [.int (nI 0), .int (nI mi), .int (nI me), .int (nI dp), .int (bI up), .int (nI dn), .ref ma, .ref mx, .ref mh, .ref mg, .ref mc, .ref mo, .ref mr, .ref mf, .long wp, .long wl, .int (nI ru), .int (nI sm), .ref mk, .ref ml])), (mk, .inl (cJ, 600, .inr (.inl EC))), (ml, .inl (cI, 30, .inl (nA RU)))] (rnS EC RU ki sm)) args s 0 0 A) (entryFrame m args 5) by rw [hHe] at K0; exact K0
  refine W.eq (g2 := entryFrame m ([.ref h0, .int (nI ki)] : List Value).toArray 5) (by rw [hargs]) ?_
  have hl := lv_entry ([.ref h0, .int (nI ki)]) (n := 5) (Nat.le_of_ble_eq_true rfl)
  rw [lg_entry_eq]
  generalize (lg_sl ([.ref h0, .int (nI ki)]) ++ List.replicate (5 - (lg_sl ([.ref h0, .int (nI ki)])).length) Slot.unset).toArray = ls at hl ⊢
  have hl : lv_has ls 5 [(0, .ref h0), (1, .int (nI ki))] := hl
  generalize ([] : List Loc) = locs at hS ⊢
  have hinX6 : ∀ w ∈ wsX60, w ∈ wsX6_rain := by decide +kernel
  have hf151 := hts (.fieldLink RX6 151 "BrightbandModel" "scans" "I") (by decide +kernel)
  have hf43 := hts (.fieldLink RX6 43 "BrightbandModel" "kept" "[J") (by decide +kernel)
  have hf46 := hts (.fieldLink RX6 46 "BrightbandModel" "ruleOf" "[I") (by decide +kernel)
  refine lv_aload_n hx hb dX6_rain_0 rfl (lv_at hl 0 rfl) ?_
  refine lv_iload_n hx hb dX6_rain_1 rfl (lv_at hl 1 rfl) ?_
  refine cr_i (wc := []) (w1 := []) (ws2 := [(h0, .inr (6, [.int (nI thr), .int (nI mi), .int (nI me), .int (nI dp), .int (bI up), .int (nI dn), .ref ma, .ref mx, .ref mh, .ref mg, .ref mc, .ref mo, .ref mr, .ref mf, .long wp, .long wl, .int (nI ru), .int (nI sm), .ref mk, .ref ml])), (mk, .inl (cJ, 600, .inr (.inl EC))), (ml, .inl (cI, 30, .inl (nA RU)))]) hP hD hS hA [] rfl rfl rfl (va_runS (As := [.int (nI ki)]) (rest := [.ref h0]) ⟨hx, hb, hml, hown, hts⟩ (c_X6_isPlace_T l D cI cJ cZ ki (by omega) H.size) (va_cwS 1 hts gX6_rain_X6_isPlace rfl rfl rfl (by decide +kernel) ⟨Nat.le_of_ble_eq_true rfl, Nat.le_of_ble_eq_true rfl⟩) (pvS hT hP hD [] rfl rfl) rfl rfl hl.1 rfl (lv_room (Nat.le_of_ble_eq_true rfl)) dX6_rain_2 ⟨Nat.zero_le _, Nat.zero_le _⟩) (fun H locs hP hD hS => ?_)
  refine cb_eq (tgt := 12) hx hb dX6_rain_5 (by decide) (fun c_5 => absurd c_5 (by decide)) (fun c_5 => ?_)
  refine lv_iconst (v := nI 0) hx hb dX6_rain_8 (by decide) ?_
  refine lv_goto (tgt := 13) hx hb dX6_rain_9 (by decide) ?_
  refine cr_i (wc := [(h0, .inr (6, [.int (nI thr), .int (nI mi), .int (nI me), .int (nI dp), .int (bI up), .int (nI dn), .ref ma, .ref mx, .ref mh, .ref mg, .ref mc, .ref mo, .ref mr, .ref mf, .long wp, .long wl, .int (nI ru), .int (nI sm), .ref mk, .ref ml]))]) (w1 := [(h0, .inr (6, [.int (nI 0), .int (nI mi), .int (nI me), .int (nI dp), .int (bI up), .int (nI dn), .ref ma, .ref mx, .ref mh, .ref mg, .ref mc, .ref mo, .ref mr, .ref mf, .long wp, .long wl, .int (nI ru), .int (nI sm), .ref mk, .ref ml]))]) (ws2 := [(h0, .inr (6, [.int (nI 0), .int (nI mi), .int (nI me), .int (nI dp), .int (bI up), .int (nI dn), .ref ma, .ref mx, .ref mh, .ref mg, .ref mc, .ref mo, .ref mr, .ref mf, .long wp, .long wl, .int (nI ru), .int (nI sm), .ref mk, .ref ml])), (mk, .inl (cJ, 600, .inr (.inl EC))), (ml, .inl (cI, 30, .inl (nA RU)))]) hP hD hS hA [0] rfl rfl rfl (va_runV (As := [.int (nI 0)]) (rest := []) ⟨hx, hb, hml, hown, hts⟩ (c_X6_goesWell_ok l D cI cJ cZ h0 thr mi me dp up dn ma mx mh mg mc mo mr mf mk ml wp wl ru sm H.size) (cwV 1 hts gX6_rain_X6_goesWell rfl rfl rfl (by decide +kernel) ⟨Nat.le_of_ble_eq_true rfl, Nat.le_of_ble_eq_true rfl⟩) (pvV hT hP hD [0] rfl rfl 0 rfl rfl) rfl rfl hl.1 rfl (lv_room (Nat.le_of_ble_eq_true rfl)) dX6_rain_13 ⟨Nat.zero_le _, Nat.zero_le _⟩) (fun H locs hP hD hS => ?_)
  refine cb_ne (tgt := 21) hx hb dX6_rain_16 (by decide) (fun c_16 => ?_) (fun c_16 => absurd c_16 (by decide))
  refine lv_lconst (v := 0) hx hb dX6_rain_21 (by decide) ?_
  refine lv_lstore_n (lv' := [(2, .long 0), (0, .ref h0), (1, .int (nI ki))]) hx hb dX6_rain_22 rfl hl (by decide) rfl (fun ls hl => ?_)
  refine lv_iconst (v := nI 0) hx hb dX6_rain_23 (by decide) ?_
  refine lv_istore (lv' := [(4, .int (nI 0)), (2, .long 0), (0, .ref h0), (1, .int (nI ki))]) hx hb dX6_rain_24 hl (by decide) rfl (fun ls hl => ?_)
  have lp26 : ∀ (n i : Nat), i + n = sm → ∀ (H : Heap) (locs : List Loc), va_P D vwCl [(h0, .inr (6, [.int (nI 0), .int (nI mi), .int (nI me), .int (nI dp), .int (bI up), .int (nI dn), .ref ma, .ref mx, .ref mh, .ref mg, .ref mc, .ref mo, .ref mr, .ref mf, .long wp, .long wl, .int (nI ru), .int (nI sm), .ref mk, .ref ml])), (mk, .inl (cJ, 600, .inr (.inl EC))), (ml, .inl (cI, 30, .inl (nA RU)))] H → va_D A [(h0, .inr (6, [.int (nI 0), .int (nI mi), .int (nI me), .int (nI dp), .int (bI up), .int (nI dn), .ref ma, .ref mx, .ref mh, .ref mg, .ref mc, .ref mo, .ref mr, .ref mf, .long wp, .long wl, .int (nI ru), .int (nI sm), .ref mk, .ref ml])), (mk, .inl (cJ, 600, .inr (.inl EC))), (ml, .inl (cI, 30, .inl (nA RU)))] → va_S A s.heap H locs → ∀ (ls : Array Slot), lv_has ls 5 [(0, .ref h0), (1, .int (nI ki)), (2, .long (rnS EC RU ki i)), (4, .int (nI i))] → W p l e (headSpec wsX6_rain ({ frames := 2, cells := 0, slots := 0, locals := 42 } : Room)).room s m args below meth c H locs 0 0 (MQ below (Ql9 D A [(h0, .inr (6, [.int (nI 0), .int (nI mi), .int (nI me), .int (nI dp), .int (bI up), .int (nI dn), .ref ma, .ref mx, .ref mh, .ref mg, .ref mc, .ref mo, .ref mr, .ref mf, .long wp, .long wl, .int (nI ru), .int (nI sm), .ref mk, .ref ml])), (mk, .inl (cJ, 600, .inr (.inl EC))), (ml, .inl (cI, 30, .inl (nA RU)))] (rnS EC RU ki sm)) args s 0 0 A) (F0 m 26 ls []) := by
    intro n
    induction n with
    | zero =>
      intro i hcnti H locs hP hD hS ls hl
      obtain rfl : sm = i := by omega
      refine lv_iload hx hb dX6_rain_26 (lv_at hl 3 rfl) ?_
      refine lv_aload_n hx hb dX6_rain_28 rfl (lv_at hl 0 rfl) ?_
      refine va_get (D := D) (ci := 6) (v := .int (nI sm)) (C := RX6) (T := TX6) (N := 20) hx hb hts hinX6 hown hK hP 0 rfl rfl 17 (by decide) hf151 (fun _ h9 => h9) rfl dX6_rain_29 ?_
      refine ci_ge (tgt := 65) hx hb dX6_rain_32 (by decide) (nT (by omega)) (nT (by omega)) (fun c_32 => ?_) (fun c_32 => by omega)
      refine lv_lload_n hx hb dX6_rain_65 rfl (lv_at hl 2 rfl) ?_
      exact fin_l hx hb hr hlocks hP hD hS (rfl) dX6_rain_66
    | succ n ih =>
      intro i hcnti H locs hP hD hS ls hl
      have hlti : i < sm := by omega
      refine lv_iload hx hb dX6_rain_26 (lv_at hl 3 rfl) ?_
      refine lv_aload_n hx hb dX6_rain_28 rfl (lv_at hl 0 rfl) ?_
      refine va_get (D := D) (ci := 6) (v := .int (nI sm)) (C := RX6) (T := TX6) (N := 20) hx hb hts hinX6 hown hK hP 0 rfl rfl 17 (by decide) hf151 (fun _ h9 => h9) rfl dX6_rain_29 ?_
      refine ci_ge (tgt := 65) hx hb dX6_rain_32 (by decide) (nT (by omega)) (nT (by omega)) (fun c_32 => by omega) (fun c_32 => ?_)
      refine lv_lload_n hx hb dX6_rain_35 rfl (lv_at hl 2 rfl) ?_
      refine lv_aload_n hx hb dX6_rain_36 rfl (lv_at hl 0 rfl) ?_
      refine va_get (D := D) (ci := 6) (v := .ref mk) (C := RX6) (T := TX6) (N := 20) hx hb hts hinX6 hown hK hP 0 rfl rfl 18 (by decide) hf43 (fun _ h9 => h9) rfl dX6_rain_37 ?_
      refine lv_bipush (v := nI 20) hx hb dX6_rain_40 (by decide) ?_
      refine lv_iload hx hb dX6_rain_42 (lv_at hl 3 rfl) ?_
      refine lv_imul hx hb dX6_rain_44 ?_
      refine tp_i (pk_mul _ _) ?_
      refine lv_iload_n hx hb dX6_rain_45 rfl (lv_at hl 1 rfl) ?_
      refine lv_iadd hx hb dX6_rain_46 ?_
      refine tp_i (nI_add _ _) ?_
      refine ald_L hx hb hK hP 1 1 rfl rfl ((20 * i) + ki) rfl (by omega) (Nat.le_of_ble_eq_true rfl) dX6_rain_47 ?_
      refine lv_aload_n hx hb dX6_rain_48 rfl (lv_at hl 0 rfl) ?_
      refine va_get (D := D) (ci := 6) (v := .ref ml) (C := RX6) (T := TX6) (N := 20) hx hb hts hinX6 hown hK hP 0 rfl rfl 19 (by decide) hf46 (fun _ h9 => h9) rfl dX6_rain_49 ?_
      refine lv_iload hx hb dX6_rain_52 (lv_at hl 3 rfl) ?_
      refine ald_N hx hb hK hP 2 0 rfl rfl i rfl (by omega) (Nat.le_of_ble_eq_true rfl) dX6_rain_54 ?_
      refine lv_i2l (v := (nI (RU i)).toInt64) hx hb dX6_rain_55 rfl ?_
      have hRi := hRU i hlti
      refine lv_ldiv hx hb dX6_rain_56 (nl_ne hRi.1 (by omega)) ?_
      refine lv_ladd hx hb dX6_rain_57 ?_
      refine lv_lstore_n (lv' := [(2, .long ((rnS EC RU ki i) + ((EC ((20 * i) + ki)) / ((nI (RU i)).toInt64)))), (0, .ref h0), (1, .int (nI ki)), (4, .int (nI i))]) hx hb dX6_rain_58 rfl hl (by decide) rfl (fun ls hl => ?_)
      refine lv_iinc (v := nI (i + 1)) (lv' := [(4, .int (nI (i + 1))), (2, .long ((rnS EC RU ki i) + ((EC ((20 * i) + ki)) / ((nI (RU i)).toInt64)))), (0, .ref h0), (1, .int (nI ki))]) hx hb dX6_rain_59 hl (k := 3) rfl (n_inc i) (by decide) rfl (fun ls hl => ?_)
      refine lv_goto (tgt := 26) hx hb dX6_rain_62 (by decide) ?_
      have hle : ([(0, .ref h0), (1, .int (nI ki)), (2, .long (rnS EC RU ki (i + 1))), (4, .int (nI (i + 1)))] : List (Nat × Value)) = [(0, .ref h0), (1, .int (nI ki)), (2, .long ((rnS EC RU ki i) + ((EC ((20 * i) + ki)) / ((nI (RU i)).toInt64)))), (4, .int (nI (i + 1)))] := rfl
      exact ih (i + 1) (by omega) H locs hP hD hS ls (by rw [hle]; exact lv_sub hl [2, 3, 1, 0] rfl)
  have hle : ([(0, .ref h0), (1, .int (nI ki)), (2, .long (rnS EC RU ki 0)), (4, .int (nI 0))] : List (Nat × Value)) = [(0, .ref h0), (1, .int (nI ki)), (2, .long 0), (4, .int (nI 0))] := rfl
  exact lp26 sm 0 (by omega) H locs hP hD hS ls (by rw [hle]; exact lv_sub hl [2, 3, 1, 0] rfl)
set_option maxHeartbeats 4000000 in
set_option maxRecDepth 100000 in
theorem c_X6_rainBy (l : Launch) (D : va_G) (cI cJ cZ : ClassId) (h0 : Nat) (thr : Nat) (mi : Nat) (me : Nat) (dp : Nat) (up : Bool) (dn : Nat) (ma : Nat) (mx : Nat) (mh : Nat) (mg : Nat) (mc : Nat) (mo : Nat) (mr : Nat) (mf : Nat) (mk : Nat) (ml : Nat) (wp : Int64) (wl : Int64) (ru : Nat) (sm : Nat) (EC : Nat → Int64) (ki : Nat) (rr : Nat) (hki : ki < 20) (hr1 : 1 ≤ rr) (hr2 : rr ≤ 1000) (hsm : sm ≤ 30) (sz : Nat) : Met l yX6_rainBy wsX6_rainBy ({ frames := 2, cells := 0, slots := 0, locals := 42 } : Room) (va_Pc [.ref h0, .int (nI ki), .int (nI rr)] (mPre D cI cJ cZ [(h0, .inr (6, [.int (nI thr), .int (nI mi), .int (nI me), .int (nI dp), .int (bI up), .int (nI dn), .ref ma, .ref mx, .ref mh, .ref mg, .ref mc, .ref mo, .ref mr, .ref mf, .long wp, .long wl, .int (nI ru), .int (nI sm), .ref mk, .ref ml])), (mk, .inl (cJ, 600, .inr (.inl EC)))] sz)) (Ql9 D (va_A [(h0, .inr (6, [.int (nI thr), .int (nI mi), .int (nI me), .int (nI dp), .int (bI up), .int (nI dn), .ref ma, .ref mx, .ref mh, .ref mg, .ref mc, .ref mo, .ref mr, .ref mf, .long wp, .long wl, .int (nI ru), .int (nI sm), .ref mk, .ref ml])), (mk, .inl (cJ, 600, .inr (.inl EC)))] sz) [(h0, .inr (6, [.int (nI 0), .int (nI mi), .int (nI me), .int (nI dp), .int (bI up), .int (nI dn), .ref ma, .ref mx, .ref mh, .ref mg, .ref mc, .ref mo, .ref mr, .ref mf, .long wp, .long wl, .int (nI ru), .int (nI sm), .ref mk, .ref ml])), (mk, .inl (cJ, 600, .inr (.inl EC)))] (rnS EC (fun _ => rr) ki sm)) 0 0 (va_A [(h0, .inr (6, [.int (nI thr), .int (nI mi), .int (nI me), .int (nI dp), .int (bI up), .int (nI dn), .ref ma, .ref mx, .ref mh, .ref mg, .ref mc, .ref mo, .ref mr, .ref mf, .long wp, .long wl, .int (nI ru), .int (nI sm), .ref mk, .ref ml])), (mk, .inl (cJ, 600, .inr (.inl EC)))] sz) := by
  refine Met.ofW (cc := cX6_rainBy) (maxL := 7) (ret := (some .long)) (by decide) rfl ?_
  intro p e s m args below meth c s₁ B hml hv
  obtain ⟨hargs, hsz, hP, hT, hD0⟩ := hv
  have hx := B.exec
  have hb := B.bytes
  have hr := B.returns
  have hts := atoms_spec (ws := wsX6_rainBy) B.pre
  have hown : s.vm.findClass RX6 = some m.cls := findClass_of_methodNamed B.named
  have hlocks := B.notSynchronized
  subst hsz
  have hK := hT.1
  have hD := hD0.self (sz := s.heap.size)
  generalize hAe : va_A [(h0, .inr (6, [.int (nI thr), .int (nI mi), .int (nI me), .int (nI dp), .int (bI up), .int (nI dn), .ref ma, .ref mx, .ref mh, .ref mg, .ref mc, .ref mo, .ref mr, .ref mf, .long wp, .long wl, .int (nI ru), .int (nI sm), .ref mk, .ref ml])), (mk, .inl (cJ, 600, .inr (.inl EC)))] s.heap.size = A at hD ⊢
  have hA : ∀ q : Nat, s.heap.size ≤ q → A q := fun q h => by rw [← hAe]; exact Or.inr h
  have hS : va_S A s.heap s.heap [] := va_S.rf
  obtain ⟨H, hHe⟩ : ∃ H : Heap, H = s.heap := ⟨_, rfl⟩
  have hS : va_S A s.heap H [] := by rw [hHe]; exact va_S.rf
  rw [← hHe] at hP
  suffices K0 : W p l e (headSpec wsX6_rainBy ({ frames := 2, cells := 0, slots := 0, locals := 42 } : Room)).room s m args below meth c H [] 0 0 (MQ below (Ql9 D A [(h0, .inr (6, [.int (nI 0), .int (nI mi), .int (nI me), .int (nI dp), .int (bI up), .int (nI dn), .ref ma, .ref mx, .ref mh, .ref mg, .ref mc, .ref mo, .ref mr, .ref mf, .long wp, .long wl, .int (nI ru), .int (nI sm), .ref mk, .ref ml])), (mk, .inl (cJ, 600, .inr (.inl EC)))] (rnS EC (fun _ => rr) ki sm)) args s 0 0 A) (entryFrame m args 7) by rw [hHe] at K0; exact K0
  refine W.eq (g2 := entryFrame m ([.ref h0, .int (nI ki), .int (nI rr)] : List Value).toArray 7) (by rw [hargs]) ?_
  have hl := lv_entry ([.ref h0, .int (nI ki), .int (nI rr)]) (n := 7) (Nat.le_of_ble_eq_true rfl)
  rw [lg_entry_eq]
  generalize (lg_sl ([.ref h0, .int (nI ki), .int (nI rr)]) ++ List.replicate (7 - (lg_sl ([.ref h0, .int (nI ki), .int (nI rr)])).length) Slot.unset).toArray = ls at hl ⊢
  have hl : lv_has ls 7 [(0, .ref h0), (1, .int (nI ki)), (2, .int (nI rr))] := hl
  generalize ([] : List Loc) = locs at hS ⊢
  have hinX6 : ∀ w ∈ wsX60, w ∈ wsX6_rainBy := by decide +kernel
  have hf151 := hts (.fieldLink RX6 151 "BrightbandModel" "scans" "I") (by decide +kernel)
  have hf43 := hts (.fieldLink RX6 43 "BrightbandModel" "kept" "[J") (by decide +kernel)
  refine lv_iload_n hx hb dX6_rainBy_0 rfl (lv_at hl 1 rfl) ?_
  refine cr_i (wc := []) (w1 := []) (ws2 := [(h0, .inr (6, [.int (nI thr), .int (nI mi), .int (nI me), .int (nI dp), .int (bI up), .int (nI dn), .ref ma, .ref mx, .ref mh, .ref mg, .ref mc, .ref mo, .ref mr, .ref mf, .long wp, .long wl, .int (nI ru), .int (nI sm), .ref mk, .ref ml])), (mk, .inl (cJ, 600, .inr (.inl EC)))]) hP hD hS hA [] rfl rfl rfl (va_runS (As := [.int (nI ki)]) (rest := []) ⟨hx, hb, hml, hown, hts⟩ (c_X6_isPlace_T l D cI cJ cZ ki (by omega) H.size) (va_cwS 1 hts gX6_rainBy_X6_isPlace rfl rfl rfl (by decide +kernel) ⟨Nat.le_of_ble_eq_true rfl, Nat.le_of_ble_eq_true rfl⟩) (pvS hT hP hD [] rfl rfl) rfl rfl hl.1 rfl (lv_room (Nat.le_of_ble_eq_true rfl)) dX6_rainBy_1 ⟨Nat.zero_le _, Nat.zero_le _⟩) (fun H locs hP hD hS => ?_)
  refine lv_istore_n (lv' := [(3, .int (bI true)), (0, .ref h0), (1, .int (nI ki)), (2, .int (nI rr))]) hx hb dX6_rainBy_4 rfl hl (by decide) rfl (fun ls hl => ?_)
  refine lv_aload_n hx hb dX6_rainBy_5 rfl (lv_at hl 1 rfl) ?_
  refine lv_iload_n hx hb dX6_rainBy_6 rfl (lv_at hl 0 rfl) ?_
  refine cb_ne (tgt := 14) hx hb dX6_rainBy_7 (by decide) (fun c_7 => ?_) (fun c_7 => absurd c_7 (by decide))
  refine lv_iload_n hx hb dX6_rainBy_14 rfl (lv_at hl 3 rfl) ?_
  refine lv_iconst (v := nI 1) hx hb dX6_rainBy_15 (by decide) ?_
  refine lv_sipush (v := nI 1000) hx hb dX6_rainBy_16 (by decide) ?_
  refine cr_i (wc := []) (w1 := []) (ws2 := [(h0, .inr (6, [.int (nI thr), .int (nI mi), .int (nI me), .int (nI dp), .int (bI up), .int (nI dn), .ref ma, .ref mx, .ref mh, .ref mg, .ref mc, .ref mo, .ref mr, .ref mf, .long wp, .long wl, .int (nI ru), .int (nI sm), .ref mk, .ref ml])), (mk, .inl (cJ, 600, .inr (.inl EC)))]) hP hD hS hA [] rfl rfl rfl (va_runS (As := [.int (nI rr), .int (nI 1), .int (nI 1000)]) (rest := [.ref h0]) ⟨hx, hb, hml, hown, hts⟩ (c_X6_in_T l D cI cJ cZ rr 1 1000 (by omega) (by omega) (by omega) H.size) (va_cwS 3 hts gX6_rainBy_X6_in rfl rfl rfl (by decide +kernel) ⟨Nat.le_of_ble_eq_true rfl, Nat.le_of_ble_eq_true rfl⟩) (pvS hT hP hD [] rfl rfl) rfl rfl hl.1 rfl (lv_room (Nat.le_of_ble_eq_true rfl)) dX6_rainBy_19 ⟨Nat.zero_le _, Nat.zero_le _⟩) (fun H locs hP hD hS => ?_)
  refine cb_eq (tgt := 29) hx hb dX6_rainBy_22 (by decide) (fun c_22 => absurd c_22 (by decide)) (fun c_22 => ?_)
  refine lv_iconst (v := nI 0) hx hb dX6_rainBy_25 (by decide) ?_
  refine lv_goto (tgt := 30) hx hb dX6_rainBy_26 (by decide) ?_
  refine cr_i (wc := [(h0, .inr (6, [.int (nI thr), .int (nI mi), .int (nI me), .int (nI dp), .int (bI up), .int (nI dn), .ref ma, .ref mx, .ref mh, .ref mg, .ref mc, .ref mo, .ref mr, .ref mf, .long wp, .long wl, .int (nI ru), .int (nI sm), .ref mk, .ref ml]))]) (w1 := [(h0, .inr (6, [.int (nI 0), .int (nI mi), .int (nI me), .int (nI dp), .int (bI up), .int (nI dn), .ref ma, .ref mx, .ref mh, .ref mg, .ref mc, .ref mo, .ref mr, .ref mf, .long wp, .long wl, .int (nI ru), .int (nI sm), .ref mk, .ref ml]))]) (ws2 := [(h0, .inr (6, [.int (nI 0), .int (nI mi), .int (nI me), .int (nI dp), .int (bI up), .int (nI dn), .ref ma, .ref mx, .ref mh, .ref mg, .ref mc, .ref mo, .ref mr, .ref mf, .long wp, .long wl, .int (nI ru), .int (nI sm), .ref mk, .ref ml])), (mk, .inl (cJ, 600, .inr (.inl EC)))]) hP hD hS hA [0] rfl rfl rfl (va_runV (As := [.int (nI 0)]) (rest := []) ⟨hx, hb, hml, hown, hts⟩ (c_X6_goesWell_ok l D cI cJ cZ h0 thr mi me dp up dn ma mx mh mg mc mo mr mf mk ml wp wl ru sm H.size) (cwV 1 hts gX6_rainBy_X6_goesWell rfl rfl rfl (by decide +kernel) ⟨Nat.le_of_ble_eq_true rfl, Nat.le_of_ble_eq_true rfl⟩) (pvV hT hP hD [0] rfl rfl 0 rfl rfl) rfl rfl hl.1 rfl (lv_room (Nat.le_of_ble_eq_true rfl)) dX6_rainBy_30 ⟨Nat.zero_le _, Nat.zero_le _⟩) (fun H locs hP hD hS => ?_)
  refine cb_ne (tgt := 38) hx hb dX6_rainBy_33 (by decide) (fun c_33 => ?_) (fun c_33 => absurd c_33 (by decide))
  refine lv_lconst (v := 0) hx hb dX6_rainBy_38 (by decide) ?_
  refine lv_lstore (lv' := [(4, .long 0), (3, .int (bI true)), (0, .ref h0), (1, .int (nI ki)), (2, .int (nI rr))]) hx hb dX6_rainBy_39 hl (by decide) rfl (fun ls hl => ?_)
  refine lv_iconst (v := nI 0) hx hb dX6_rainBy_41 (by decide) ?_
  refine lv_istore (lv' := [(6, .int (nI 0)), (4, .long 0), (3, .int (bI true)), (0, .ref h0), (1, .int (nI ki)), (2, .int (nI rr))]) hx hb dX6_rainBy_42 hl (by decide) rfl (fun ls hl => ?_)
  have lp44 : ∀ (n i : Nat), i + n = sm → ∀ (H : Heap) (locs : List Loc), va_P D vwCl [(h0, .inr (6, [.int (nI 0), .int (nI mi), .int (nI me), .int (nI dp), .int (bI up), .int (nI dn), .ref ma, .ref mx, .ref mh, .ref mg, .ref mc, .ref mo, .ref mr, .ref mf, .long wp, .long wl, .int (nI ru), .int (nI sm), .ref mk, .ref ml])), (mk, .inl (cJ, 600, .inr (.inl EC)))] H → va_D A [(h0, .inr (6, [.int (nI 0), .int (nI mi), .int (nI me), .int (nI dp), .int (bI up), .int (nI dn), .ref ma, .ref mx, .ref mh, .ref mg, .ref mc, .ref mo, .ref mr, .ref mf, .long wp, .long wl, .int (nI ru), .int (nI sm), .ref mk, .ref ml])), (mk, .inl (cJ, 600, .inr (.inl EC)))] → va_S A s.heap H locs → ∀ (ls : Array Slot), lv_has ls 7 [(0, .ref h0), (1, .int (nI ki)), (2, .int (nI rr)), (4, .long (rnS EC (fun _ => rr) ki i)), (6, .int (nI i))] → W p l e (headSpec wsX6_rainBy ({ frames := 2, cells := 0, slots := 0, locals := 42 } : Room)).room s m args below meth c H locs 0 0 (MQ below (Ql9 D A [(h0, .inr (6, [.int (nI 0), .int (nI mi), .int (nI me), .int (nI dp), .int (bI up), .int (nI dn), .ref ma, .ref mx, .ref mh, .ref mg, .ref mc, .ref mo, .ref mr, .ref mf, .long wp, .long wl, .int (nI ru), .int (nI sm), .ref mk, .ref ml])), (mk, .inl (cJ, 600, .inr (.inl EC)))] (rnS EC (fun _ => rr) ki sm)) args s 0 0 A) (F0 m 44 ls []) := by
    intro n
    induction n with
    | zero =>
      intro i hcnti H locs hP hD hS ls hl
      obtain rfl : sm = i := by omega
      refine lv_iload hx hb dX6_rainBy_44 (lv_at hl 4 rfl) ?_
      refine lv_aload_n hx hb dX6_rainBy_46 rfl (lv_at hl 0 rfl) ?_
      refine va_get (D := D) (ci := 6) (v := .int (nI sm)) (C := RX6) (T := TX6) (N := 20) hx hb hts hinX6 hown hK hP 0 rfl rfl 17 (by decide) hf151 (fun _ h9 => h9) rfl dX6_rainBy_47 ?_
      refine ci_ge (tgt := 79) hx hb dX6_rainBy_50 (by decide) (nT (by omega)) (nT (by omega)) (fun c_50 => ?_) (fun c_50 => by omega)
      refine lv_lload hx hb dX6_rainBy_79 (lv_at hl 3 rfl) ?_
      exact fin_l hx hb hr hlocks hP hD hS (rfl) dX6_rainBy_81
    | succ n ih =>
      intro i hcnti H locs hP hD hS ls hl
      have hlti : i < sm := by omega
      refine lv_iload hx hb dX6_rainBy_44 (lv_at hl 4 rfl) ?_
      refine lv_aload_n hx hb dX6_rainBy_46 rfl (lv_at hl 0 rfl) ?_
      refine va_get (D := D) (ci := 6) (v := .int (nI sm)) (C := RX6) (T := TX6) (N := 20) hx hb hts hinX6 hown hK hP 0 rfl rfl 17 (by decide) hf151 (fun _ h9 => h9) rfl dX6_rainBy_47 ?_
      refine ci_ge (tgt := 79) hx hb dX6_rainBy_50 (by decide) (nT (by omega)) (nT (by omega)) (fun c_50 => by omega) (fun c_50 => ?_)
      refine lv_lload hx hb dX6_rainBy_53 (lv_at hl 3 rfl) ?_
      refine lv_aload_n hx hb dX6_rainBy_55 rfl (lv_at hl 0 rfl) ?_
      refine va_get (D := D) (ci := 6) (v := .ref mk) (C := RX6) (T := TX6) (N := 20) hx hb hts hinX6 hown hK hP 0 rfl rfl 18 (by decide) hf43 (fun _ h9 => h9) rfl dX6_rainBy_56 ?_
      refine lv_bipush (v := nI 20) hx hb dX6_rainBy_59 (by decide) ?_
      refine lv_iload hx hb dX6_rainBy_61 (lv_at hl 4 rfl) ?_
      refine lv_imul hx hb dX6_rainBy_63 ?_
      refine tp_i (pk_mul _ _) ?_
      refine lv_iload_n hx hb dX6_rainBy_64 rfl (lv_at hl 1 rfl) ?_
      refine lv_iadd hx hb dX6_rainBy_65 ?_
      refine tp_i (nI_add _ _) ?_
      refine ald_L hx hb hK hP 1 1 rfl rfl ((20 * i) + ki) rfl (by omega) (Nat.le_of_ble_eq_true rfl) dX6_rainBy_66 ?_
      refine lv_iload_n hx hb dX6_rainBy_67 rfl (lv_at hl 2 rfl) ?_
      refine lv_i2l (v := (nI rr).toInt64) hx hb dX6_rainBy_68 rfl ?_
      refine lv_ldiv hx hb dX6_rainBy_69 (nl_ne hr1 (by omega)) ?_
      refine lv_ladd hx hb dX6_rainBy_70 ?_
      refine lv_lstore (lv' := [(4, .long ((rnS EC (fun _ => rr) ki i) + ((EC ((20 * i) + ki)) / ((nI rr).toInt64)))), (0, .ref h0), (1, .int (nI ki)), (2, .int (nI rr)), (6, .int (nI i))]) hx hb dX6_rainBy_71 hl (by decide) rfl (fun ls hl => ?_)
      refine lv_iinc (v := nI (i + 1)) (lv' := [(6, .int (nI (i + 1))), (4, .long ((rnS EC (fun _ => rr) ki i) + ((EC ((20 * i) + ki)) / ((nI rr).toInt64)))), (0, .ref h0), (1, .int (nI ki)), (2, .int (nI rr))]) hx hb dX6_rainBy_73 hl (k := 4) rfl (n_inc i) (by decide) rfl (fun ls hl => ?_)
      refine lv_goto (tgt := 44) hx hb dX6_rainBy_76 (by decide) ?_
      have hle : ([(0, .ref h0), (1, .int (nI ki)), (2, .int (nI rr)), (4, .long (rnS EC (fun _ => rr) ki (i + 1))), (6, .int (nI (i + 1)))] : List (Nat × Value)) = [(0, .ref h0), (1, .int (nI ki)), (2, .int (nI rr)), (4, .long ((rnS EC (fun _ => rr) ki i) + ((EC ((20 * i) + ki)) / ((nI rr).toInt64)))), (6, .int (nI (i + 1)))] := rfl
      exact ih (i + 1) (by omega) H locs hP hD hS ls (by rw [hle]; exact lv_sub hl [2, 3, 4, 1, 0] rfl)
  have hle : ([(0, .ref h0), (1, .int (nI ki)), (2, .int (nI rr)), (4, .long (rnS EC (fun _ => rr) ki 0)), (6, .int (nI 0))] : List (Nat × Value)) = [(0, .ref h0), (1, .int (nI ki)), (2, .int (nI rr)), (4, .long 0), (6, .int (nI 0))] := rfl
  exact lp44 sm 0 (by omega) H locs hP hD hS ls (by rw [hle]; exact lv_sub hl [3, 4, 5, 1, 0] rfl)
set_option maxHeartbeats 4000000 in
set_option maxRecDepth 100000 in
theorem c_X6_differs (l : Launch) (D : va_G) (cI cJ cZ : ClassId) (h0 : Nat) (thr : Nat) (mi : Nat) (me : Nat) (dp : Nat) (up : Bool) (dn : Nat) (ma : Nat) (mx : Nat) (mh : Nat) (mg : Nat) (mc : Nat) (mo : Nat) (mr : Nat) (mf : Nat) (mk : Nat) (ml : Nat) (wp : Int64) (wl : Int64) (ru : Nat) (sm : Nat) (EC : Nat → Int64) (st : Int) (hst1 : -5 < st) (hst2 : st < 5) (hs2 : 2 ≤ sm) (hsm : sm ≤ 30) (sz : Nat) : Met l yX6_differs wsX6_differs ({ frames := 2, cells := 0, slots := 0, locals := 42 } : Room) (va_Pc [.ref h0, .int (zI st)] (mPre D cI cJ cZ [(h0, .inr (6, [.int (nI thr), .int (nI mi), .int (nI me), .int (nI dp), .int (bI up), .int (nI dn), .ref ma, .ref mx, .ref mh, .ref mg, .ref mc, .ref mo, .ref mr, .ref mf, .long wp, .long wl, .int (nI ru), .int (nI sm), .ref mk, .ref ml])), (mk, .inl (cJ, 600, .inr (.inl EC)))] sz)) (Ql9 D (va_A [(h0, .inr (6, [.int (nI thr), .int (nI mi), .int (nI me), .int (nI dp), .int (bI up), .int (nI dn), .ref ma, .ref mx, .ref mh, .ref mg, .ref mc, .ref mo, .ref mr, .ref mf, .long wp, .long wl, .int (nI ru), .int (nI sm), .ref mk, .ref ml])), (mk, .inl (cJ, 600, .inr (.inl EC)))] sz) [(h0, .inr (6, [.int (nI thr), .int (nI mi), .int (nI me), .int (nI dp), .int (bI up), .int (nI dn), .ref ma, .ref mx, .ref mh, .ref mg, .ref mc, .ref mo, .ref mr, .ref mf, .long wp, .long wl, .int (nI ru), .int (nI sm), .ref mk, .ref ml])), (mk, .inl (cJ, 600, .inr (.inl EC)))] (dfS EC sm st 20)) 0 0 (va_A [(h0, .inr (6, [.int (nI thr), .int (nI mi), .int (nI me), .int (nI dp), .int (bI up), .int (nI dn), .ref ma, .ref mx, .ref mh, .ref mg, .ref mc, .ref mo, .ref mr, .ref mf, .long wp, .long wl, .int (nI ru), .int (nI sm), .ref mk, .ref ml])), (mk, .inl (cJ, 600, .inr (.inl EC)))] sz) := by
  refine Met.ofW (cc := cX6_differs) (maxL := 9) (ret := (some .long)) (by decide) rfl ?_
  intro p e s m args below meth c s₁ B hml hv
  obtain ⟨hargs, hsz, hP, hT, hD0⟩ := hv
  have hx := B.exec
  have hb := B.bytes
  have hr := B.returns
  have hts := atoms_spec (ws := wsX6_differs) B.pre
  have hown : s.vm.findClass RX6 = some m.cls := findClass_of_methodNamed B.named
  have hlocks := B.notSynchronized
  subst hsz
  have hK := hT.1
  have hD := hD0.self (sz := s.heap.size)
  generalize hAe : va_A [(h0, .inr (6, [.int (nI thr), .int (nI mi), .int (nI me), .int (nI dp), .int (bI up), .int (nI dn), .ref ma, .ref mx, .ref mh, .ref mg, .ref mc, .ref mo, .ref mr, .ref mf, .long wp, .long wl, .int (nI ru), .int (nI sm), .ref mk, .ref ml])), (mk, .inl (cJ, 600, .inr (.inl EC)))] s.heap.size = A at hD ⊢
  have hA : ∀ q : Nat, s.heap.size ≤ q → A q := fun q h => by rw [← hAe]; exact Or.inr h
  have hS : va_S A s.heap s.heap [] := va_S.rf
  obtain ⟨H, hHe⟩ : ∃ H : Heap, H = s.heap := ⟨_, rfl⟩
  have hS : va_S A s.heap H [] := by rw [hHe]; exact va_S.rf
  rw [← hHe] at hP
  suffices K0 : W p l e (headSpec wsX6_differs ({ frames := 2, cells := 0, slots := 0, locals := 42 } : Room)).room s m args below meth c H [] 0 0 (MQ below (Ql9 D A [(h0, .inr (6, [.int (nI thr), .int (nI mi), .int (nI me), .int (nI dp), .int (bI up), .int (nI dn), .ref ma, .ref mx, .ref mh, .ref mg, .ref mc, .ref mo, .ref mr, .ref mf, .long wp, .long wl, .int (nI ru), .int (nI sm), .ref mk, .ref ml])), (mk, .inl (cJ, 600, .inr (.inl EC)))] (dfS EC sm st 20)) args s 0 0 A) (entryFrame m args 9) by rw [hHe] at K0; exact K0
  refine W.eq (g2 := entryFrame m ([.ref h0, .int (zI st)] : List Value).toArray 9) (by rw [hargs]) ?_
  have hl := lv_entry ([.ref h0, .int (zI st)]) (n := 9) (Nat.le_of_ble_eq_true rfl)
  rw [lg_entry_eq]
  generalize (lg_sl ([.ref h0, .int (zI st)]) ++ List.replicate (9 - (lg_sl ([.ref h0, .int (zI st)])).length) Slot.unset).toArray = ls at hl ⊢
  have hl : lv_has ls 9 [(0, .ref h0), (1, .int (zI st))] := hl
  generalize ([] : List Loc) = locs at hS ⊢
  have hinX6 : ∀ w ∈ wsX60, w ∈ wsX6_differs := by decide +kernel
  have hf43 := hts (.fieldLink RX6 43 "BrightbandModel" "kept" "[J") (by decide +kernel)
  have hf151 := hts (.fieldLink RX6 151 "BrightbandModel" "scans" "I") (by decide +kernel)
  refine lv_lconst (v := 0) hx hb dX6_differs_0 (by decide) ?_
  refine lv_lstore_n (lv' := [(2, .long 0), (0, .ref h0), (1, .int (zI st))]) hx hb dX6_differs_1 rfl hl (by decide) rfl (fun ls hl => ?_)
  refine lv_iconst (v := nI 0) hx hb dX6_differs_2 (by decide) ?_
  refine lv_istore (lv' := [(4, .int (nI 0)), (2, .long 0), (0, .ref h0), (1, .int (zI st))]) hx hb dX6_differs_3 hl (by decide) rfl (fun ls hl => ?_)
  have lp5 : ∀ (n i : Nat), i + n = 20 → ∀ (H : Heap) (locs : List Loc), va_P D vwCl [(h0, .inr (6, [.int (nI thr), .int (nI mi), .int (nI me), .int (nI dp), .int (bI up), .int (nI dn), .ref ma, .ref mx, .ref mh, .ref mg, .ref mc, .ref mo, .ref mr, .ref mf, .long wp, .long wl, .int (nI ru), .int (nI sm), .ref mk, .ref ml])), (mk, .inl (cJ, 600, .inr (.inl EC)))] H → va_D A [(h0, .inr (6, [.int (nI thr), .int (nI mi), .int (nI me), .int (nI dp), .int (bI up), .int (nI dn), .ref ma, .ref mx, .ref mh, .ref mg, .ref mc, .ref mo, .ref mr, .ref mf, .long wp, .long wl, .int (nI ru), .int (nI sm), .ref mk, .ref ml])), (mk, .inl (cJ, 600, .inr (.inl EC)))] → va_S A s.heap H locs → ∀ (ls : Array Slot), lv_has ls 9 [(0, .ref h0), (1, .int (zI st)), (2, .long (dfS EC sm st i)), (4, .int (nI i))] → W p l e (headSpec wsX6_differs ({ frames := 2, cells := 0, slots := 0, locals := 42 } : Room)).room s m args below meth c H locs 0 0 (MQ below (Ql9 D A [(h0, .inr (6, [.int (nI thr), .int (nI mi), .int (nI me), .int (nI dp), .int (bI up), .int (nI dn), .ref ma, .ref mx, .ref mh, .ref mg, .ref mc, .ref mo, .ref mr, .ref mf, .long wp, .long wl, .int (nI ru), .int (nI sm), .ref mk, .ref ml])), (mk, .inl (cJ, 600, .inr (.inl EC)))] (dfS EC sm st 20)) args s 0 0 A) (F0 m 5 ls []) := by
    intro n
    induction n with
    | zero =>
      intro i hcnti H locs hP hD hS ls hl
      obtain rfl : 20 = i := by omega
      refine lv_iload hx hb dX6_differs_5 (lv_at hl 3 rfl) ?_
      refine lv_bipush (v := nI 20) hx hb dX6_differs_7 (by decide) ?_
      refine ci_ge (tgt := 93) hx hb dX6_differs_9 (by decide) (nT (by omega)) (nT (by omega)) (fun c_9 => ?_) (fun c_9 => by omega)
      refine lv_lload_n hx hb dX6_differs_93 rfl (lv_at hl 2 rfl) ?_
      exact fin_l hx hb hr hlocks hP hD hS (rfl) dX6_differs_94
    | succ n ih =>
      intro i hcnti H locs hP hD hS ls hl
      have hlti : i < 20 := by omega
      refine lv_iload hx hb dX6_differs_5 (lv_at hl 3 rfl) ?_
      refine lv_bipush (v := nI 20) hx hb dX6_differs_7 (by decide) ?_
      refine ci_ge (tgt := 93) hx hb dX6_differs_9 (by decide) (nT (by omega)) (nT (by omega)) (fun c_9 => by omega) (fun c_9 => ?_)
      refine lv_iload hx hb dX6_differs_12 (lv_at hl 3 rfl) ?_
      refine lv_iload_n hx hb dX6_differs_14 rfl (lv_at hl 1 rfl) ?_
      refine lv_isub hx hb dX6_differs_15 ?_
      refine tp_i (nz_sub _ _) ?_
      rcases Decidable.em (0 ≤ (i : Int) - st ∧ (i : Int) - st < 20) with hz | hz
      · refine tp_i (z_n (n := ((i : Int) - st).toNat) (by omega)) ?_
        refine cr_i (wc := []) (w1 := []) (ws2 := [(h0, .inr (6, [.int (nI thr), .int (nI mi), .int (nI me), .int (nI dp), .int (bI up), .int (nI dn), .ref ma, .ref mx, .ref mh, .ref mg, .ref mc, .ref mo, .ref mr, .ref mf, .long wp, .long wl, .int (nI ru), .int (nI sm), .ref mk, .ref ml])), (mk, .inl (cJ, 600, .inr (.inl EC)))]) hP hD hS hA [] rfl rfl rfl (va_runS (As := [.int (nI (((i : Int) - st).toNat))]) (rest := []) ⟨hx, hb, hml, hown, hts⟩ (c_X6_isPlace_T l D cI cJ cZ (((i : Int) - st).toNat) (by omega) H.size) (va_cwS 1 hts gX6_differs_X6_isPlace rfl rfl rfl (by decide +kernel) ⟨Nat.le_of_ble_eq_true rfl, Nat.le_of_ble_eq_true rfl⟩) (pvS hT hP hD [] rfl rfl) rfl rfl hl.1 rfl (lv_room (Nat.le_of_ble_eq_true rfl)) dX6_differs_16 ⟨Nat.zero_le _, Nat.zero_le _⟩) (fun H locs hP hD hS => ?_)
        refine cb_eq (tgt := 44) hx hb dX6_differs_19 (by decide) (fun c_19 => absurd c_19 (by decide)) (fun c_19 => ?_)
        refine lv_aload_n hx hb dX6_differs_22 rfl (lv_at hl 0 rfl) ?_
        refine va_get (D := D) (ci := 6) (v := .ref mk) (C := RX6) (T := TX6) (N := 20) hx hb hts hinX6 hown hK hP 0 rfl rfl 18 (by decide) hf43 (fun _ h9 => h9) rfl dX6_differs_23 ?_
        refine lv_bipush (v := nI 20) hx hb dX6_differs_26 (by decide) ?_
        refine lv_aload_n hx hb dX6_differs_28 rfl (lv_at hl 0 rfl) ?_
        refine va_get (D := D) (ci := 6) (v := .int (nI sm)) (C := RX6) (T := TX6) (N := 20) hx hb hts hinX6 hown hK hP 0 rfl rfl 17 (by decide) hf151 (fun _ h9 => h9) rfl dX6_differs_29 ?_
        refine lv_iconst (v := nI 2) hx hb dX6_differs_32 (by decide) ?_
        refine lv_isub hx hb dX6_differs_33 ?_
        refine tp_i (pk_sub (by omega)) ?_
        refine lv_imul hx hb dX6_differs_34 ?_
        refine tp_i (pk_mul _ _) ?_
        refine lv_iload hx hb dX6_differs_35 (lv_at hl 3 rfl) ?_
        refine lv_iadd hx hb dX6_differs_37 ?_
        refine tp_i (nI_add _ _) ?_
        refine lv_iload_n hx hb dX6_differs_38 rfl (lv_at hl 1 rfl) ?_
        refine lv_isub hx hb dX6_differs_39 ?_
        refine tp_i (nz_sub _ _) ?_
        refine tp_i (show (zI ((((20 * (sm - 2)) + i : Nat) : Int) - st) : Int32) = nI (20 * (sm - 2) + ((i : Int) - st).toNat) from z_n (by omega)) ?_
        refine ald_L hx hb hK hP 1 1 rfl rfl (20 * (sm - 2) + ((i : Int) - st).toNat) rfl (by omega) (Nat.le_of_ble_eq_true rfl) dX6_differs_40 ?_
        refine lv_goto (tgt := 45) hx hb dX6_differs_41 (by decide) ?_
        refine lv_lstore (lv' := [(5, .long (EC (20 * (sm - 2) + ((i : Int) - st).toNat))), (0, .ref h0), (1, .int (zI st)), (2, .long (dfS EC sm st i)), (4, .int (nI i))]) hx hb dX6_differs_45 hl (by decide) rfl (fun ls hl => ?_)
        refine lv_aload_n hx hb dX6_differs_47 rfl (lv_at hl 1 rfl) ?_
        refine va_get (D := D) (ci := 6) (v := .ref mk) (C := RX6) (T := TX6) (N := 20) hx hb hts hinX6 hown hK hP 0 rfl rfl 18 (by decide) hf43 (fun _ h9 => h9) rfl dX6_differs_48 ?_
        refine lv_bipush (v := nI 20) hx hb dX6_differs_51 (by decide) ?_
        refine lv_aload_n hx hb dX6_differs_53 rfl (lv_at hl 1 rfl) ?_
        refine va_get (D := D) (ci := 6) (v := .int (nI sm)) (C := RX6) (T := TX6) (N := 20) hx hb hts hinX6 hown hK hP 0 rfl rfl 17 (by decide) hf151 (fun _ h9 => h9) rfl dX6_differs_54 ?_
        refine lv_iconst (v := nI 1) hx hb dX6_differs_57 (by decide) ?_
        refine lv_isub hx hb dX6_differs_58 ?_
        refine tp_i (pk_sub (by omega)) ?_
        refine lv_imul hx hb dX6_differs_59 ?_
        refine tp_i (pk_mul _ _) ?_
        refine lv_iload hx hb dX6_differs_60 (lv_at hl 4 rfl) ?_
        refine lv_iadd hx hb dX6_differs_62 ?_
        refine tp_i (nI_add _ _) ?_
        refine ald_L hx hb hK hP 1 1 rfl rfl ((20 * (sm - 1)) + i) rfl (by omega) (Nat.le_of_ble_eq_true rfl) dX6_differs_63 ?_
        refine lv_lload hx hb dX6_differs_64 (lv_at hl 0 rfl) ?_
        refine lv_lsub hx hb dX6_differs_66 ?_
        refine lv_lstore (lv' := [(7, .long ((EC ((20 * (sm - 1)) + i)) - (EC (20 * (sm - 2) + ((i : Int) - st).toNat)))), (5, .long (EC (20 * (sm - 2) + ((i : Int) - st).toNat))), (0, .ref h0), (1, .int (zI st)), (2, .long (dfS EC sm st i)), (4, .int (nI i))]) hx hb dX6_differs_67 hl (by decide) rfl (fun ls hl => ?_)
        refine lv_lload_n hx hb dX6_differs_69 rfl (lv_at hl 4 rfl) ?_
        refine lv_lload hx hb dX6_differs_70 (lv_at hl 0 rfl) ?_
        refine lv_lconst (v := 0) hx hb dX6_differs_72 (by decide) ?_
        refine cl_ge (tgt := 83) hx hb dX6_differs_73 dX6_differs_74 (by decide) (fun c_74 => ?_) (fun c_74 => ?_)
        · have hdf : dfS EC sm st (i + 1) = dfS EC sm st i + (EC (20 * (sm - 1) + i) - EC (20 * (sm - 2) + ((i : Int) - st).toNat)) := by rw [dfS_in (ahd_in hz), absL_ge c_74]
          refine lv_lload hx hb dX6_differs_83 (lv_at hl 0 rfl) ?_
          refine lv_ladd hx hb dX6_differs_85 ?_
          refine lv_lstore_n (lv' := [(2, .long ((dfS EC sm st i) + ((EC ((20 * (sm - 1)) + i)) - (EC (20 * (sm - 2) + ((i : Int) - st).toNat))))), (7, .long ((EC ((20 * (sm - 1)) + i)) - (EC (20 * (sm - 2) + ((i : Int) - st).toNat)))), (5, .long (EC (20 * (sm - 2) + ((i : Int) - st).toNat))), (0, .ref h0), (1, .int (zI st)), (4, .int (nI i))]) hx hb dX6_differs_86 rfl hl (by decide) rfl (fun ls hl => ?_)
          refine lv_iinc (v := nI (i + 1)) (lv' := [(4, .int (nI (i + 1))), (2, .long ((dfS EC sm st i) + ((EC ((20 * (sm - 1)) + i)) - (EC (20 * (sm - 2) + ((i : Int) - st).toNat))))), (7, .long ((EC ((20 * (sm - 1)) + i)) - (EC (20 * (sm - 2) + ((i : Int) - st).toNat)))), (5, .long (EC (20 * (sm - 2) + ((i : Int) - st).toNat))), (0, .ref h0), (1, .int (zI st))]) hx hb dX6_differs_87 hl (k := 5) rfl (n_inc i) (by decide) rfl (fun ls hl => ?_)
          refine lv_goto (tgt := 5) hx hb dX6_differs_90 (by decide) ?_
          have hle : ([(0, .ref h0), (1, .int (zI st)), (2, .long (dfS EC sm st (i + 1))), (4, .int (nI (i + 1)))] : List (Nat × Value)) = [(0, .ref h0), (1, .int (zI st)), (2, .long ((dfS EC sm st i) + ((EC ((20 * (sm - 1)) + i)) - (EC (20 * (sm - 2) + ((i : Int) - st).toNat))))), (4, .int (nI (i + 1)))] := (by rw [hdf])
          exact ih (i + 1) (by omega) H locs hP hD hS ls (by rw [hle]; exact lv_sub hl [4, 5, 1, 0] rfl)
        · have hdf : dfS EC sm st (i + 1) = dfS EC sm st i + -(EC (20 * (sm - 1) + i) - EC (20 * (sm - 2) + ((i : Int) - st).toNat)) := by rw [dfS_in (ahd_in hz), absL_lt (Int64.not_le.mp c_74)]
          refine lv_lload hx hb dX6_differs_77 (lv_at hl 0 rfl) ?_
          refine lv_lneg hx hb dX6_differs_79 ?_
          refine lv_goto (tgt := 85) hx hb dX6_differs_80 (by decide) ?_
          refine lv_ladd hx hb dX6_differs_85 ?_
          refine lv_lstore_n (lv' := [(2, .long ((dfS EC sm st i) + (-((EC ((20 * (sm - 1)) + i)) - (EC (20 * (sm - 2) + ((i : Int) - st).toNat)))))), (7, .long ((EC ((20 * (sm - 1)) + i)) - (EC (20 * (sm - 2) + ((i : Int) - st).toNat)))), (5, .long (EC (20 * (sm - 2) + ((i : Int) - st).toNat))), (0, .ref h0), (1, .int (zI st)), (4, .int (nI i))]) hx hb dX6_differs_86 rfl hl (by decide) rfl (fun ls hl => ?_)
          refine lv_iinc (v := nI (i + 1)) (lv' := [(4, .int (nI (i + 1))), (2, .long ((dfS EC sm st i) + (-((EC ((20 * (sm - 1)) + i)) - (EC (20 * (sm - 2) + ((i : Int) - st).toNat)))))), (7, .long ((EC ((20 * (sm - 1)) + i)) - (EC (20 * (sm - 2) + ((i : Int) - st).toNat)))), (5, .long (EC (20 * (sm - 2) + ((i : Int) - st).toNat))), (0, .ref h0), (1, .int (zI st))]) hx hb dX6_differs_87 hl (k := 5) rfl (n_inc i) (by decide) rfl (fun ls hl => ?_)
          refine lv_goto (tgt := 5) hx hb dX6_differs_90 (by decide) ?_
          have hle : ([(0, .ref h0), (1, .int (zI st)), (2, .long (dfS EC sm st (i + 1))), (4, .int (nI (i + 1)))] : List (Nat × Value)) = [(0, .ref h0), (1, .int (zI st)), (2, .long ((dfS EC sm st i) + (-((EC ((20 * (sm - 1)) + i)) - (EC (20 * (sm - 2) + ((i : Int) - st).toNat)))))), (4, .int (nI (i + 1)))] := (by rw [hdf])
          exact ih (i + 1) (by omega) H locs hP hD hS ls (by rw [hle]; exact lv_sub hl [4, 5, 1, 0] rfl)
      · refine cr_i (wc := []) (w1 := []) (ws2 := [(h0, .inr (6, [.int (nI thr), .int (nI mi), .int (nI me), .int (nI dp), .int (bI up), .int (nI dn), .ref ma, .ref mx, .ref mh, .ref mg, .ref mc, .ref mo, .ref mr, .ref mf, .long wp, .long wl, .int (nI ru), .int (nI sm), .ref mk, .ref ml])), (mk, .inl (cJ, 600, .inr (.inl EC)))]) hP hD hS hA [] rfl rfl rfl (va_runS (As := [.int (zI (((i) : Int) - st))]) (rest := []) ⟨hx, hb, hml, hown, hts⟩ (c_X6_isPlace_F l D cI cJ cZ (zI (((i) : Int) - st)) (by rw [zT (by omega) (by omega)]; omega) H.size) (va_cwS 1 hts gX6_differs_X6_isPlace rfl rfl rfl (by decide +kernel) ⟨Nat.le_of_ble_eq_true rfl, Nat.le_of_ble_eq_true rfl⟩) (pvS hT hP hD [] rfl rfl) rfl rfl hl.1 rfl (lv_room (Nat.le_of_ble_eq_true rfl)) dX6_differs_16 ⟨Nat.zero_le _, Nat.zero_le _⟩) (fun H locs hP hD hS => ?_)
        refine cb_eq (tgt := 44) hx hb dX6_differs_19 (by decide) (fun c_19 => ?_) (fun c_19 => absurd c_19 (by decide))
        refine lv_lconst (v := 0) hx hb dX6_differs_44 (by decide) ?_
        refine lv_lstore (lv' := [(5, .long 0), (0, .ref h0), (1, .int (zI st)), (2, .long (dfS EC sm st i)), (4, .int (nI i))]) hx hb dX6_differs_45 hl (by decide) rfl (fun ls hl => ?_)
        refine lv_aload_n hx hb dX6_differs_47 rfl (lv_at hl 1 rfl) ?_
        refine va_get (D := D) (ci := 6) (v := .ref mk) (C := RX6) (T := TX6) (N := 20) hx hb hts hinX6 hown hK hP 0 rfl rfl 18 (by decide) hf43 (fun _ h9 => h9) rfl dX6_differs_48 ?_
        refine lv_bipush (v := nI 20) hx hb dX6_differs_51 (by decide) ?_
        refine lv_aload_n hx hb dX6_differs_53 rfl (lv_at hl 1 rfl) ?_
        refine va_get (D := D) (ci := 6) (v := .int (nI sm)) (C := RX6) (T := TX6) (N := 20) hx hb hts hinX6 hown hK hP 0 rfl rfl 17 (by decide) hf151 (fun _ h9 => h9) rfl dX6_differs_54 ?_
        refine lv_iconst (v := nI 1) hx hb dX6_differs_57 (by decide) ?_
        refine lv_isub hx hb dX6_differs_58 ?_
        refine tp_i (pk_sub (by omega)) ?_
        refine lv_imul hx hb dX6_differs_59 ?_
        refine tp_i (pk_mul _ _) ?_
        refine lv_iload hx hb dX6_differs_60 (lv_at hl 4 rfl) ?_
        refine lv_iadd hx hb dX6_differs_62 ?_
        refine tp_i (nI_add _ _) ?_
        refine ald_L hx hb hK hP 1 1 rfl rfl ((20 * (sm - 1)) + i) rfl (by omega) (Nat.le_of_ble_eq_true rfl) dX6_differs_63 ?_
        refine lv_lload hx hb dX6_differs_64 (lv_at hl 0 rfl) ?_
        refine lv_lsub hx hb dX6_differs_66 ?_
        refine lv_lstore (lv' := [(7, .long ((EC ((20 * (sm - 1)) + i)) - 0)), (5, .long 0), (0, .ref h0), (1, .int (zI st)), (2, .long (dfS EC sm st i)), (4, .int (nI i))]) hx hb dX6_differs_67 hl (by decide) rfl (fun ls hl => ?_)
        refine lv_lload_n hx hb dX6_differs_69 rfl (lv_at hl 4 rfl) ?_
        refine lv_lload hx hb dX6_differs_70 (lv_at hl 0 rfl) ?_
        refine lv_lconst (v := 0) hx hb dX6_differs_72 (by decide) ?_
        refine cl_ge (tgt := 83) hx hb dX6_differs_73 dX6_differs_74 (by decide) (fun c_74 => ?_) (fun c_74 => ?_)
        · have hdf : dfS EC sm st (i + 1) = dfS EC sm st i + (EC (20 * (sm - 1) + i) - 0) := by rw [dfS_in (ahd_out hz), absL_ge c_74]
          refine lv_lload hx hb dX6_differs_83 (lv_at hl 0 rfl) ?_
          refine lv_ladd hx hb dX6_differs_85 ?_
          refine lv_lstore_n (lv' := [(2, .long ((dfS EC sm st i) + ((EC ((20 * (sm - 1)) + i)) - 0))), (7, .long ((EC ((20 * (sm - 1)) + i)) - 0)), (5, .long 0), (0, .ref h0), (1, .int (zI st)), (4, .int (nI i))]) hx hb dX6_differs_86 rfl hl (by decide) rfl (fun ls hl => ?_)
          refine lv_iinc (v := nI (i + 1)) (lv' := [(4, .int (nI (i + 1))), (2, .long ((dfS EC sm st i) + ((EC ((20 * (sm - 1)) + i)) - 0))), (7, .long ((EC ((20 * (sm - 1)) + i)) - 0)), (5, .long 0), (0, .ref h0), (1, .int (zI st))]) hx hb dX6_differs_87 hl (k := 5) rfl (n_inc i) (by decide) rfl (fun ls hl => ?_)
          refine lv_goto (tgt := 5) hx hb dX6_differs_90 (by decide) ?_
          have hle : ([(0, .ref h0), (1, .int (zI st)), (2, .long (dfS EC sm st (i + 1))), (4, .int (nI (i + 1)))] : List (Nat × Value)) = [(0, .ref h0), (1, .int (zI st)), (2, .long ((dfS EC sm st i) + ((EC ((20 * (sm - 1)) + i)) - 0))), (4, .int (nI (i + 1)))] := (by rw [hdf])
          exact ih (i + 1) (by omega) H locs hP hD hS ls (by rw [hle]; exact lv_sub hl [4, 5, 1, 0] rfl)
        · have hdf : dfS EC sm st (i + 1) = dfS EC sm st i + -(EC (20 * (sm - 1) + i) - 0) := by rw [dfS_in (ahd_out hz), absL_lt (Int64.not_le.mp c_74)]
          refine lv_lload hx hb dX6_differs_77 (lv_at hl 0 rfl) ?_
          refine lv_lneg hx hb dX6_differs_79 ?_
          refine lv_goto (tgt := 85) hx hb dX6_differs_80 (by decide) ?_
          refine lv_ladd hx hb dX6_differs_85 ?_
          refine lv_lstore_n (lv' := [(2, .long ((dfS EC sm st i) + (-((EC ((20 * (sm - 1)) + i)) - 0)))), (7, .long ((EC ((20 * (sm - 1)) + i)) - 0)), (5, .long 0), (0, .ref h0), (1, .int (zI st)), (4, .int (nI i))]) hx hb dX6_differs_86 rfl hl (by decide) rfl (fun ls hl => ?_)
          refine lv_iinc (v := nI (i + 1)) (lv' := [(4, .int (nI (i + 1))), (2, .long ((dfS EC sm st i) + (-((EC ((20 * (sm - 1)) + i)) - 0)))), (7, .long ((EC ((20 * (sm - 1)) + i)) - 0)), (5, .long 0), (0, .ref h0), (1, .int (zI st))]) hx hb dX6_differs_87 hl (k := 5) rfl (n_inc i) (by decide) rfl (fun ls hl => ?_)
          refine lv_goto (tgt := 5) hx hb dX6_differs_90 (by decide) ?_
          have hle : ([(0, .ref h0), (1, .int (zI st)), (2, .long (dfS EC sm st (i + 1))), (4, .int (nI (i + 1)))] : List (Nat × Value)) = [(0, .ref h0), (1, .int (zI st)), (2, .long ((dfS EC sm st i) + (-((EC ((20 * (sm - 1)) + i)) - 0)))), (4, .int (nI (i + 1)))] := (by rw [hdf])
          exact ih (i + 1) (by omega) H locs hP hD hS ls (by rw [hle]; exact lv_sub hl [4, 5, 1, 0] rfl)
  have hle : ([(0, .ref h0), (1, .int (zI st)), (2, .long (dfS EC sm st 0)), (4, .int (nI 0))] : List (Nat × Value)) = [(0, .ref h0), (1, .int (zI st)), (2, .long 0), (4, .int (nI 0))] := rfl
  exact lp5 20 0 (by omega) H locs hP hD hS ls (by rw [hle]; exact lv_sub hl [2, 3, 1, 0] rfl)
set_option maxHeartbeats 4000000 in
set_option maxRecDepth 100000 in
theorem c_X6_motion (l : Launch) (D : va_G) (cI cJ cZ : ClassId) (h0 : Nat) (thr : Nat) (mi : Nat) (me : Nat) (dp : Nat) (up : Bool) (dn : Nat) (ma : Nat) (mx : Nat) (mh : Nat) (mg : Nat) (mc : Nat) (mo : Nat) (mr : Nat) (mf : Nat) (mk : Nat) (ml : Nat) (wp : Int64) (wl : Int64) (ru : Nat) (sm : Nat) (EC : Nat → Int64) (hs2 : 2 ≤ sm) (hsm : sm ≤ 30) (sz : Nat) : Met l yX6_motion wsX6_motion ({ frames := 3, cells := 0, slots := 0, locals := 70 } : Room) (va_Pc [.ref h0] (mPre D cI cJ cZ [(h0, .inr (6, [.int (nI thr), .int (nI mi), .int (nI me), .int (nI dp), .int (bI up), .int (nI dn), .ref ma, .ref mx, .ref mh, .ref mg, .ref mc, .ref mo, .ref mr, .ref mf, .long wp, .long wl, .int (nI ru), .int (nI sm), .ref mk, .ref ml])), (mk, .inl (cJ, 600, .inr (.inl EC)))] sz)) (Qi9 D (va_A [(h0, .inr (6, [.int (nI thr), .int (nI mi), .int (nI me), .int (nI dp), .int (bI up), .int (nI dn), .ref ma, .ref mx, .ref mh, .ref mg, .ref mc, .ref mo, .ref mr, .ref mf, .long wp, .long wl, .int (nI ru), .int (nI sm), .ref mk, .ref ml])), (mk, .inl (cJ, 600, .inr (.inl EC)))] sz) [(h0, .inr (6, [.int (nI 0), .int (nI mi), .int (nI me), .int (nI dp), .int (bI up), .int (nI dn), .ref ma, .ref mx, .ref mh, .ref mg, .ref mc, .ref mo, .ref mr, .ref mf, .long wp, .long wl, .int (nI ru), .int (nI sm), .ref mk, .ref ml])), (mk, .inl (cJ, 600, .inr (.inl EC)))] (zI (moB (fun zz => dfS EC sm zz 20) 3))) 0 0 (va_A [(h0, .inr (6, [.int (nI thr), .int (nI mi), .int (nI me), .int (nI dp), .int (bI up), .int (nI dn), .ref ma, .ref mx, .ref mh, .ref mg, .ref mc, .ref mo, .ref mr, .ref mf, .long wp, .long wl, .int (nI ru), .int (nI sm), .ref mk, .ref ml])), (mk, .inl (cJ, 600, .inr (.inl EC)))] sz) := by
  refine Met.ofW (cc := cX6_motion) (maxL := 8) (ret := (some .int)) (by decide) rfl ?_
  intro p e s m args below meth c s₁ B hml hv
  obtain ⟨hargs, hsz, hP, hT, hD0⟩ := hv
  have hx := B.exec
  have hb := B.bytes
  have hr := B.returns
  have hts := atoms_spec (ws := wsX6_motion) B.pre
  have hown : s.vm.findClass RX6 = some m.cls := findClass_of_methodNamed B.named
  have hlocks := B.notSynchronized
  subst hsz
  have hK := hT.1
  have hD := hD0.self (sz := s.heap.size)
  generalize hAe : va_A [(h0, .inr (6, [.int (nI thr), .int (nI mi), .int (nI me), .int (nI dp), .int (bI up), .int (nI dn), .ref ma, .ref mx, .ref mh, .ref mg, .ref mc, .ref mo, .ref mr, .ref mf, .long wp, .long wl, .int (nI ru), .int (nI sm), .ref mk, .ref ml])), (mk, .inl (cJ, 600, .inr (.inl EC)))] s.heap.size = A at hD ⊢
  have hA : ∀ q : Nat, s.heap.size ≤ q → A q := fun q h => by rw [← hAe]; exact Or.inr h
  have hS : va_S A s.heap s.heap [] := va_S.rf
  obtain ⟨H, hHe⟩ : ∃ H : Heap, H = s.heap := ⟨_, rfl⟩
  have hS : va_S A s.heap H [] := by rw [hHe]; exact va_S.rf
  rw [← hHe] at hP
  suffices K0 : W p l e (headSpec wsX6_motion ({ frames := 3, cells := 0, slots := 0, locals := 70 } : Room)).room s m args below meth c H [] 0 0 (MQ below (Qi9 D A [(h0, .inr (6, [.int (nI 0), .int (nI mi), .int (nI me), .int (nI dp), .int (bI up), .int (nI dn), .ref ma, .ref mx, .ref mh, .ref mg, .ref mc, .ref mo, .ref mr, .ref mf, .long wp, .long wl, .int (nI ru), .int (nI sm), .ref mk, .ref ml])), (mk, .inl (cJ, 600, .inr (.inl EC)))] (zI (moB (fun zz => dfS EC sm zz 20) 3))) args s 0 0 A) (entryFrame m args 8) by rw [hHe] at K0; exact K0
  refine W.eq (g2 := entryFrame m ([.ref h0] : List Value).toArray 8) (by rw [hargs]) ?_
  have hl := lv_entry ([.ref h0]) (n := 8) (Nat.le_of_ble_eq_true rfl)
  rw [lg_entry_eq]
  generalize (lg_sl ([.ref h0]) ++ List.replicate (8 - (lg_sl ([.ref h0])).length) Slot.unset).toArray = ls at hl ⊢
  have hl : lv_has ls 8 [(0, .ref h0)] := hl
  generalize ([] : List Loc) = locs at hS ⊢
  have hinX6 : ∀ w ∈ wsX60, w ∈ wsX6_motion := by decide +kernel
  have hf151 := hts (.fieldLink RX6 151 "BrightbandModel" "scans" "I") (by decide +kernel)
  refine lv_aload_n hx hb dX6_motion_0 rfl (lv_at hl 0 rfl) ?_
  refine lv_aload_n hx hb dX6_motion_1 rfl (lv_at hl 0 rfl) ?_
  refine va_get (D := D) (ci := 6) (v := .int (nI sm)) (C := RX6) (T := TX6) (N := 20) hx hb hts hinX6 hown hK hP 0 rfl rfl 17 (by decide) hf151 (fun _ h9 => h9) rfl dX6_motion_2 ?_
  refine lv_iconst (v := nI 2) hx hb dX6_motion_5 (by decide) ?_
  refine ci_ge (tgt := 13) hx hb dX6_motion_6 (by decide) (nT (by omega)) (nT (by omega)) (fun c_6 => ?_) (fun c_6 => by omega)
  refine lv_iconst (v := nI 0) hx hb dX6_motion_13 (by decide) ?_
  refine cr_i (wc := [(h0, .inr (6, [.int (nI thr), .int (nI mi), .int (nI me), .int (nI dp), .int (bI up), .int (nI dn), .ref ma, .ref mx, .ref mh, .ref mg, .ref mc, .ref mo, .ref mr, .ref mf, .long wp, .long wl, .int (nI ru), .int (nI sm), .ref mk, .ref ml]))]) (w1 := [(h0, .inr (6, [.int (nI 0), .int (nI mi), .int (nI me), .int (nI dp), .int (bI up), .int (nI dn), .ref ma, .ref mx, .ref mh, .ref mg, .ref mc, .ref mo, .ref mr, .ref mf, .long wp, .long wl, .int (nI ru), .int (nI sm), .ref mk, .ref ml]))]) (ws2 := [(h0, .inr (6, [.int (nI 0), .int (nI mi), .int (nI me), .int (nI dp), .int (bI up), .int (nI dn), .ref ma, .ref mx, .ref mh, .ref mg, .ref mc, .ref mo, .ref mr, .ref mf, .long wp, .long wl, .int (nI ru), .int (nI sm), .ref mk, .ref ml])), (mk, .inl (cJ, 600, .inr (.inl EC)))]) hP hD hS hA [0] rfl rfl rfl (va_runV (As := [.int (nI 0)]) (rest := []) ⟨hx, hb, hml, hown, hts⟩ (c_X6_goesWell_ok l D cI cJ cZ h0 thr mi me dp up dn ma mx mh mg mc mo mr mf mk ml wp wl ru sm H.size) (cwV 1 hts gX6_motion_X6_goesWell rfl rfl rfl (by decide +kernel) ⟨Nat.le_of_ble_eq_true rfl, Nat.le_of_ble_eq_true rfl⟩) (pvV hT hP hD [0] rfl rfl 0 rfl rfl) rfl rfl hl.1 rfl (lv_room (Nat.le_of_ble_eq_true rfl)) dX6_motion_14 ⟨Nat.zero_le _, Nat.zero_le _⟩) (fun H locs hP hD hS => ?_)
  refine cb_ne (tgt := 22) hx hb dX6_motion_17 (by decide) (fun c_17 => ?_) (fun c_17 => absurd c_17 (by decide))
  refine lv_iconst (v := nI 0) hx hb dX6_motion_22 (by decide) ?_
  refine tp_i (show (nI 0 : Int32) = zI 0 from rfl) ?_
  refine lv_istore_n (lv' := [(1, .int (zI 0)), (0, .ref h0)]) hx hb dX6_motion_23 rfl hl (by decide) rfl (fun ls hl => ?_)
  refine lv_aload_n hx hb dX6_motion_24 rfl (lv_at hl 1 rfl) ?_
  refine lv_iconst (v := nI 0) hx hb dX6_motion_25 (by decide) ?_
  refine tp_i (show (nI 0 : Int32) = zI 0 from rfl) ?_
  refine cr_l (wc := [(h0, .inr (6, [.int (nI 0), .int (nI mi), .int (nI me), .int (nI dp), .int (bI up), .int (nI dn), .ref ma, .ref mx, .ref mh, .ref mg, .ref mc, .ref mo, .ref mr, .ref mf, .long wp, .long wl, .int (nI ru), .int (nI sm), .ref mk, .ref ml])), (mk, .inl (cJ, 600, .inr (.inl EC)))]) (w1 := [(h0, .inr (6, [.int (nI 0), .int (nI mi), .int (nI me), .int (nI dp), .int (bI up), .int (nI dn), .ref ma, .ref mx, .ref mh, .ref mg, .ref mc, .ref mo, .ref mr, .ref mf, .long wp, .long wl, .int (nI ru), .int (nI sm), .ref mk, .ref ml])), (mk, .inl (cJ, 600, .inr (.inl EC)))]) (ws2 := [(h0, .inr (6, [.int (nI 0), .int (nI mi), .int (nI me), .int (nI dp), .int (bI up), .int (nI dn), .ref ma, .ref mx, .ref mh, .ref mg, .ref mc, .ref mo, .ref mr, .ref mf, .long wp, .long wl, .int (nI ru), .int (nI sm), .ref mk, .ref ml])), (mk, .inl (cJ, 600, .inr (.inl EC)))]) hP hD hS hA [0, 1] rfl rfl rfl (va_runV (As := [.int (zI 0)]) (rest := []) ⟨hx, hb, hml, hown, hts⟩ (c_X6_differs l D cI cJ cZ h0 0 mi me dp up dn ma mx mh mg mc mo mr mf mk ml wp wl ru sm EC 0 (by omega) (by omega) (by omega) (by omega) H.size) (cwV 1 hts gX6_motion_X6_differs rfl rfl rfl (by decide +kernel) ⟨Nat.le_of_ble_eq_true rfl, Nat.le_of_ble_eq_true rfl⟩) (pvV hT hP hD [0, 1] rfl rfl 0 rfl rfl) rfl rfl hl.1 rfl (lv_room (Nat.le_of_ble_eq_true rfl)) dX6_motion_26 ⟨Nat.zero_le _, Nat.zero_le _⟩) (fun H locs hP hD hS => ?_)
  refine lv_lstore_n (lv' := [(2, .long (dfS EC sm 0 20)), (1, .int (zI 0)), (0, .ref h0)]) hx hb dX6_motion_29 rfl hl (by decide) rfl (fun ls hl => ?_)
  refine lv_iconst (v := nI 1) hx hb dX6_motion_30 (by decide) ?_
  refine lv_istore (lv' := [(4, .int (nI 1)), (2, .long (dfS EC sm 0 20)), (1, .int (zI 0)), (0, .ref h0)]) hx hb dX6_motion_31 hl (by decide) rfl (fun ls hl => ?_)
  have lp33 : ∀ (n f : Nat), f + n = 3 → ∀ (H : Heap) (locs : List Loc), va_P D vwCl [(h0, .inr (6, [.int (nI 0), .int (nI mi), .int (nI me), .int (nI dp), .int (bI up), .int (nI dn), .ref ma, .ref mx, .ref mh, .ref mg, .ref mc, .ref mo, .ref mr, .ref mf, .long wp, .long wl, .int (nI ru), .int (nI sm), .ref mk, .ref ml])), (mk, .inl (cJ, 600, .inr (.inl EC)))] H → va_D A [(h0, .inr (6, [.int (nI 0), .int (nI mi), .int (nI me), .int (nI dp), .int (bI up), .int (nI dn), .ref ma, .ref mx, .ref mh, .ref mg, .ref mc, .ref mo, .ref mr, .ref mf, .long wp, .long wl, .int (nI ru), .int (nI sm), .ref mk, .ref ml])), (mk, .inl (cJ, 600, .inr (.inl EC)))] → va_S A s.heap H locs → ∀ (ls : Array Slot), lv_has ls 8 [(0, .ref h0), (1, .int (zI (moB (fun zz => dfS EC sm zz 20) f))), (2, .long (moL (fun zz => dfS EC sm zz 20) f)), (4, .int (nI (f + 1)))] → W p l e (headSpec wsX6_motion ({ frames := 3, cells := 0, slots := 0, locals := 70 } : Room)).room s m args below meth c H locs 0 0 (MQ below (Qi9 D A [(h0, .inr (6, [.int (nI 0), .int (nI mi), .int (nI me), .int (nI dp), .int (bI up), .int (nI dn), .ref ma, .ref mx, .ref mh, .ref mg, .ref mc, .ref mo, .ref mr, .ref mf, .long wp, .long wl, .int (nI ru), .int (nI sm), .ref mk, .ref ml])), (mk, .inl (cJ, 600, .inr (.inl EC)))] (zI (moB (fun zz => dfS EC sm zz 20) 3))) args s 0 0 A) (F0 m 33 ls []) := by
    intro n
    induction n with
    | zero =>
      intro f hcntf H locs hP hD hS ls hl
      obtain rfl : 3 = f := by omega
      refine lv_iload hx hb dX6_motion_33 (lv_at hl 3 rfl) ?_
      refine lv_iconst (v := nI 3) hx hb dX6_motion_35 (by decide) ?_
      refine ci_gt (tgt := 87) hx hb dX6_motion_36 (by decide) (nT (by omega)) (nT (by omega)) (fun c_36 => ?_) (fun c_36 => by omega)
      refine lv_iload_n hx hb dX6_motion_87 rfl (lv_at hl 1 rfl) ?_
      exact fin_i hx hb hr hlocks hP hD hS (rfl) dX6_motion_88
    | succ n ih =>
      intro f hcntf H locs hP hD hS ls hl
      have hltf : f < 3 := by omega
      refine lv_iload hx hb dX6_motion_33 (lv_at hl 3 rfl) ?_
      refine lv_iconst (v := nI 3) hx hb dX6_motion_35 (by decide) ?_
      refine ci_gt (tgt := 87) hx hb dX6_motion_36 (by decide) (nT (by omega)) (nT (by omega)) (fun c_36 => by omega) (fun c_36 => ?_)
      refine lv_iconst (v := zI (-1)) hx hb dX6_motion_39 (by decide) ?_
      refine lv_istore (lv' := [(5, .int (zI (-1))), (0, .ref h0), (1, .int (zI (moB (fun zz => dfS EC sm zz 20) f))), (2, .long (moL (fun zz => dfS EC sm zz 20) f)), (4, .int (nI (f + 1)))]) hx hb dX6_motion_40 hl (by decide) rfl (fun ls hl => ?_)
      refine lv_iload hx hb dX6_motion_42 (lv_at hl 0 rfl) ?_
      refine lv_iconst (v := nI 2) hx hb dX6_motion_44 (by decide) ?_
      refine ci_ge (tgt := 81) hx hb dX6_motion_45 (by decide) (zT (by omega) (by omega)) (nT (by omega)) (fun c_45 => by omega) (fun c_45 => ?_)
      refine lv_aload_n hx hb dX6_motion_48 rfl (lv_at hl 1 rfl) ?_
      refine lv_iload hx hb dX6_motion_49 (lv_at hl 0 rfl) ?_
      refine lv_iload hx hb dX6_motion_51 (lv_at hl 4 rfl) ?_
      refine lv_imul hx hb dX6_motion_53 ?_
      refine tp_i (zn_mul _ _) ?_
      refine tp_i (show (zI ((-1) * ((f + 1 : Nat) : Int)) : Int32) = zI (-((f : Int) + 1)) from congrArg zI (by omega)) ?_
      refine cr_l (wc := [(h0, .inr (6, [.int (nI 0), .int (nI mi), .int (nI me), .int (nI dp), .int (bI up), .int (nI dn), .ref ma, .ref mx, .ref mh, .ref mg, .ref mc, .ref mo, .ref mr, .ref mf, .long wp, .long wl, .int (nI ru), .int (nI sm), .ref mk, .ref ml])), (mk, .inl (cJ, 600, .inr (.inl EC)))]) (w1 := [(h0, .inr (6, [.int (nI 0), .int (nI mi), .int (nI me), .int (nI dp), .int (bI up), .int (nI dn), .ref ma, .ref mx, .ref mh, .ref mg, .ref mc, .ref mo, .ref mr, .ref mf, .long wp, .long wl, .int (nI ru), .int (nI sm), .ref mk, .ref ml])), (mk, .inl (cJ, 600, .inr (.inl EC)))]) (ws2 := [(h0, .inr (6, [.int (nI 0), .int (nI mi), .int (nI me), .int (nI dp), .int (bI up), .int (nI dn), .ref ma, .ref mx, .ref mh, .ref mg, .ref mc, .ref mo, .ref mr, .ref mf, .long wp, .long wl, .int (nI ru), .int (nI sm), .ref mk, .ref ml])), (mk, .inl (cJ, 600, .inr (.inl EC)))]) hP hD hS hA [0, 1] rfl rfl rfl (va_runV (As := [.int (zI (-((f : Int) + 1)))]) (rest := []) ⟨hx, hb, hml, hown, hts⟩ (c_X6_differs l D cI cJ cZ h0 0 mi me dp up dn ma mx mh mg mc mo mr mf mk ml wp wl ru sm EC (-((f : Int) + 1)) (by omega) (by omega) (by omega) (by omega) H.size) (cwV 1 hts gX6_motion_X6_differs rfl rfl rfl (by decide +kernel) ⟨Nat.le_of_ble_eq_true rfl, Nat.le_of_ble_eq_true rfl⟩) (pvV hT hP hD [0, 1] rfl rfl 0 rfl rfl) rfl rfl hl.1 rfl (lv_room (Nat.le_of_ble_eq_true rfl)) dX6_motion_54 ⟨Nat.zero_le _, Nat.zero_le _⟩) (fun H locs hP hD hS => ?_)
      refine lv_lstore (lv' := [(6, .long (dfS EC sm (-((f : Int) + 1)) 20)), (5, .int (zI (-1))), (0, .ref h0), (1, .int (zI (moB (fun zz => dfS EC sm zz 20) f))), (2, .long (moL (fun zz => dfS EC sm zz 20) f)), (4, .int (nI (f + 1)))]) hx hb dX6_motion_57 hl (by decide) rfl (fun ls hl => ?_)
      refine lv_lload hx hb dX6_motion_59 (lv_at hl 0 rfl) ?_
      refine lv_lload_n hx hb dX6_motion_61 rfl (lv_at hl 4 rfl) ?_
      refine cl_ge (tgt := 75) hx hb dX6_motion_62 dX6_motion_63 (by decide) (fun cln => ?_) (fun cln => ?_)
      · have hln : ¬ dfS EC sm (-((f : Int) + 1)) 20 < moL (fun zz => dfS EC sm zz 20) f := Int64.not_lt.mpr cln
        refine lv_iinc (v := zI 1) (lv' := [(5, .int (zI 1)), (6, .long (dfS EC sm (-((f : Int) + 1)) 20)), (0, .ref h0), (1, .int (zI (moB (fun zz => dfS EC sm zz 20) f))), (2, .long (moL (fun zz => dfS EC sm zz 20) f)), (4, .int (nI (f + 1)))]) hx hb dX6_motion_75 hl (k := 1) rfl (by decide) (by decide) rfl (fun ls hl => ?_)
        refine lv_goto (tgt := 42) hx hb dX6_motion_78 (by decide) ?_
        refine lv_iload hx hb dX6_motion_42 (lv_at hl 0 rfl) ?_
        refine lv_iconst (v := nI 2) hx hb dX6_motion_44 (by decide) ?_
        refine ci_ge (tgt := 81) hx hb dX6_motion_45 (by decide) (zT (by omega) (by omega)) (nT (by omega)) (fun c_45 => by omega) (fun c_45 => ?_)
        refine lv_aload_n hx hb dX6_motion_48 rfl (lv_at hl 2 rfl) ?_
        refine lv_iload hx hb dX6_motion_49 (lv_at hl 0 rfl) ?_
        refine lv_iload hx hb dX6_motion_51 (lv_at hl 5 rfl) ?_
        refine lv_imul hx hb dX6_motion_53 ?_
        refine tp_i (zn_mul _ _) ?_
        refine tp_i (show (zI (1 * ((f + 1 : Nat) : Int)) : Int32) = zI ((f : Int) + 1) from congrArg zI (by omega)) ?_
        refine cr_l (wc := [(h0, .inr (6, [.int (nI 0), .int (nI mi), .int (nI me), .int (nI dp), .int (bI up), .int (nI dn), .ref ma, .ref mx, .ref mh, .ref mg, .ref mc, .ref mo, .ref mr, .ref mf, .long wp, .long wl, .int (nI ru), .int (nI sm), .ref mk, .ref ml])), (mk, .inl (cJ, 600, .inr (.inl EC)))]) (w1 := [(h0, .inr (6, [.int (nI 0), .int (nI mi), .int (nI me), .int (nI dp), .int (bI up), .int (nI dn), .ref ma, .ref mx, .ref mh, .ref mg, .ref mc, .ref mo, .ref mr, .ref mf, .long wp, .long wl, .int (nI ru), .int (nI sm), .ref mk, .ref ml])), (mk, .inl (cJ, 600, .inr (.inl EC)))]) (ws2 := [(h0, .inr (6, [.int (nI 0), .int (nI mi), .int (nI me), .int (nI dp), .int (bI up), .int (nI dn), .ref ma, .ref mx, .ref mh, .ref mg, .ref mc, .ref mo, .ref mr, .ref mf, .long wp, .long wl, .int (nI ru), .int (nI sm), .ref mk, .ref ml])), (mk, .inl (cJ, 600, .inr (.inl EC)))]) hP hD hS hA [0, 1] rfl rfl rfl (va_runV (As := [.int (zI ((f : Int) + 1))]) (rest := []) ⟨hx, hb, hml, hown, hts⟩ (c_X6_differs l D cI cJ cZ h0 0 mi me dp up dn ma mx mh mg mc mo mr mf mk ml wp wl ru sm EC ((f : Int) + 1) (by omega) (by omega) (by omega) (by omega) H.size) (cwV 1 hts gX6_motion_X6_differs rfl rfl rfl (by decide +kernel) ⟨Nat.le_of_ble_eq_true rfl, Nat.le_of_ble_eq_true rfl⟩) (pvV hT hP hD [0, 1] rfl rfl 0 rfl rfl) rfl rfl hl.1 rfl (lv_room (Nat.le_of_ble_eq_true rfl)) dX6_motion_54 ⟨Nat.zero_le _, Nat.zero_le _⟩) (fun H locs hP hD hS => ?_)
        refine lv_lstore (lv' := [(6, .long (dfS EC sm ((f : Int) + 1) 20)), (5, .int (zI 1)), (0, .ref h0), (1, .int (zI (moB (fun zz => dfS EC sm zz 20) f))), (2, .long (moL (fun zz => dfS EC sm zz 20) f)), (4, .int (nI (f + 1)))]) hx hb dX6_motion_57 hl (by decide) rfl (fun ls hl => ?_)
        refine lv_lload hx hb dX6_motion_59 (lv_at hl 0 rfl) ?_
        refine lv_lload_n hx hb dX6_motion_61 rfl (lv_at hl 4 rfl) ?_
        refine cl_ge (tgt := 75) hx hb dX6_motion_62 dX6_motion_63 (by decide) (fun clp => ?_) (fun clp => ?_)
        · have hlp : ¬ dfS EC sm ((f : Int) + 1) 20 < moL (fun zz => dfS EC sm zz 20) f := Int64.not_lt.mpr clp
          have hlo : (if dfS EC sm (-((f : Int) + 1)) 20 < moL (fun zz => dfS EC sm zz 20) f then dfS EC sm (-((f : Int) + 1)) 20 else moL (fun zz => dfS EC sm zz 20) f) = moL (fun zz => dfS EC sm zz 20) f := if_neg hln
          have hm1 : moL (fun zz => dfS EC sm zz 20) (f + 1) = moL (fun zz => dfS EC sm zz 20) f := by show (if dfS EC sm ((f : Int) + 1) 20 < (if dfS EC sm (-((f : Int) + 1)) 20 < moL (fun zz => dfS EC sm zz 20) f then dfS EC sm (-((f : Int) + 1)) 20 else moL (fun zz => dfS EC sm zz 20) f) then dfS EC sm ((f : Int) + 1) 20 else (if dfS EC sm (-((f : Int) + 1)) 20 < moL (fun zz => dfS EC sm zz 20) f then dfS EC sm (-((f : Int) + 1)) 20 else moL (fun zz => dfS EC sm zz 20) f)) = _; rw [hlo, if_neg hlp]
          have hm2 : moB (fun zz => dfS EC sm zz 20) (f + 1) = moB (fun zz => dfS EC sm zz 20) f := by show (if dfS EC sm ((f : Int) + 1) 20 < (if dfS EC sm (-((f : Int) + 1)) 20 < moL (fun zz => dfS EC sm zz 20) f then dfS EC sm (-((f : Int) + 1)) 20 else moL (fun zz => dfS EC sm zz 20) f) then (f : Int) + 1 else if dfS EC sm (-((f : Int) + 1)) 20 < moL (fun zz => dfS EC sm zz 20) f then -((f : Int) + 1) else moB (fun zz => dfS EC sm zz 20) f) = _; rw [hlo, if_neg hlp, if_neg hln]
          refine lv_iinc (v := zI 3) (lv' := [(5, .int (zI 3)), (6, .long (dfS EC sm ((f : Int) + 1) 20)), (0, .ref h0), (1, .int (zI (moB (fun zz => dfS EC sm zz 20) f))), (2, .long (moL (fun zz => dfS EC sm zz 20) f)), (4, .int (nI (f + 1)))]) hx hb dX6_motion_75 hl (k := 1) rfl (by decide) (by decide) rfl (fun ls hl => ?_)
          refine lv_goto (tgt := 42) hx hb dX6_motion_78 (by decide) ?_
          refine lv_iload hx hb dX6_motion_42 (lv_at hl 0 rfl) ?_
          refine lv_iconst (v := nI 2) hx hb dX6_motion_44 (by decide) ?_
          refine ci_ge (tgt := 81) hx hb dX6_motion_45 (by decide) (zT (by omega) (by omega)) (nT (by omega)) (fun c_45 => ?_) (fun c_45 => by omega)
          refine lv_iinc (v := nI (f + 1 + 1)) (lv' := [(4, .int (nI (f + 1 + 1))), (5, .int (zI 3)), (6, .long (dfS EC sm ((f : Int) + 1) 20)), (0, .ref h0), (1, .int (zI (moB (fun zz => dfS EC sm zz 20) f))), (2, .long (moL (fun zz => dfS EC sm zz 20) f))]) hx hb dX6_motion_81 hl (k := 5) rfl (n_inc (f + 1)) (by decide) rfl (fun ls hl => ?_)
          refine lv_goto (tgt := 33) hx hb dX6_motion_84 (by decide) ?_
          have hle : ([(0, .ref h0), (1, .int (zI (moB (fun zz => dfS EC sm zz 20) (f + 1)))), (2, .long (moL (fun zz => dfS EC sm zz 20) (f + 1))), (4, .int (nI ((f + 1) + 1)))] : List (Nat × Value)) = [(0, .ref h0), (1, .int (zI (moB (fun zz => dfS EC sm zz 20) f))), (2, .long (moL (fun zz => dfS EC sm zz 20) f)), (4, .int (nI (f + 1 + 1)))] := (by rw [show moL (fun zz => dfS EC sm zz 20) (f + 1) = _ from hm1, show moB (fun zz => dfS EC sm zz 20) (f + 1) = _ from hm2])
          exact ih (f + 1) (by omega) H locs hP hD hS ls (by rw [hle]; exact lv_sub hl [3, 4, 5, 0] rfl)
        · have hlp : dfS EC sm ((f : Int) + 1) 20 < moL (fun zz => dfS EC sm zz 20) f := Int64.not_le.mp clp
          have hlo : (if dfS EC sm (-((f : Int) + 1)) 20 < moL (fun zz => dfS EC sm zz 20) f then dfS EC sm (-((f : Int) + 1)) 20 else moL (fun zz => dfS EC sm zz 20) f) = moL (fun zz => dfS EC sm zz 20) f := if_neg hln
          have hm1 : moL (fun zz => dfS EC sm zz 20) (f + 1) = dfS EC sm ((f : Int) + 1) 20 := by show (if dfS EC sm ((f : Int) + 1) 20 < (if dfS EC sm (-((f : Int) + 1)) 20 < moL (fun zz => dfS EC sm zz 20) f then dfS EC sm (-((f : Int) + 1)) 20 else moL (fun zz => dfS EC sm zz 20) f) then dfS EC sm ((f : Int) + 1) 20 else (if dfS EC sm (-((f : Int) + 1)) 20 < moL (fun zz => dfS EC sm zz 20) f then dfS EC sm (-((f : Int) + 1)) 20 else moL (fun zz => dfS EC sm zz 20) f)) = _; rw [hlo, if_pos hlp]
          have hm2 : moB (fun zz => dfS EC sm zz 20) (f + 1) = (f : Int) + 1 := by show (if dfS EC sm ((f : Int) + 1) 20 < (if dfS EC sm (-((f : Int) + 1)) 20 < moL (fun zz => dfS EC sm zz 20) f then dfS EC sm (-((f : Int) + 1)) 20 else moL (fun zz => dfS EC sm zz 20) f) then (f : Int) + 1 else if dfS EC sm (-((f : Int) + 1)) 20 < moL (fun zz => dfS EC sm zz 20) f then -((f : Int) + 1) else moB (fun zz => dfS EC sm zz 20) f) = _; rw [hlo, if_pos hlp]
          refine lv_lload hx hb dX6_motion_66 (lv_at hl 0 rfl) ?_
          refine lv_lstore_n (lv' := [(2, .long (dfS EC sm ((f : Int) + 1) 20)), (6, .long (dfS EC sm ((f : Int) + 1) 20)), (5, .int (zI 1)), (0, .ref h0), (1, .int (zI (moB (fun zz => dfS EC sm zz 20) f))), (4, .int (nI (f + 1)))]) hx hb dX6_motion_68 rfl hl (by decide) rfl (fun ls hl => ?_)
          refine lv_iload hx hb dX6_motion_69 (lv_at hl 2 rfl) ?_
          refine lv_iload hx hb dX6_motion_71 (lv_at hl 5 rfl) ?_
          refine lv_imul hx hb dX6_motion_73 ?_
          refine tp_i (zn_mul _ _) ?_
          refine tp_i (show (zI (1 * ((f + 1 : Nat) : Int)) : Int32) = zI ((f : Int) + 1) from congrArg zI (by omega)) ?_
          refine lv_istore_n (lv' := [(1, .int (zI ((f : Int) + 1))), (2, .long (dfS EC sm ((f : Int) + 1) 20)), (6, .long (dfS EC sm ((f : Int) + 1) 20)), (5, .int (zI 1)), (0, .ref h0), (4, .int (nI (f + 1)))]) hx hb dX6_motion_74 rfl hl (by decide) rfl (fun ls hl => ?_)
          refine lv_iinc (v := zI 3) (lv' := [(5, .int (zI 3)), (1, .int (zI ((f : Int) + 1))), (2, .long (dfS EC sm ((f : Int) + 1) 20)), (6, .long (dfS EC sm ((f : Int) + 1) 20)), (0, .ref h0), (4, .int (nI (f + 1)))]) hx hb dX6_motion_75 hl (k := 3) rfl (by decide) (by decide) rfl (fun ls hl => ?_)
          refine lv_goto (tgt := 42) hx hb dX6_motion_78 (by decide) ?_
          refine lv_iload hx hb dX6_motion_42 (lv_at hl 0 rfl) ?_
          refine lv_iconst (v := nI 2) hx hb dX6_motion_44 (by decide) ?_
          refine ci_ge (tgt := 81) hx hb dX6_motion_45 (by decide) (zT (by omega) (by omega)) (nT (by omega)) (fun c_45 => ?_) (fun c_45 => by omega)
          refine lv_iinc (v := nI (f + 1 + 1)) (lv' := [(4, .int (nI (f + 1 + 1))), (5, .int (zI 3)), (1, .int (zI ((f : Int) + 1))), (2, .long (dfS EC sm ((f : Int) + 1) 20)), (6, .long (dfS EC sm ((f : Int) + 1) 20)), (0, .ref h0)]) hx hb dX6_motion_81 hl (k := 5) rfl (n_inc (f + 1)) (by decide) rfl (fun ls hl => ?_)
          refine lv_goto (tgt := 33) hx hb dX6_motion_84 (by decide) ?_
          have hle : ([(0, .ref h0), (1, .int (zI (moB (fun zz => dfS EC sm zz 20) (f + 1)))), (2, .long (moL (fun zz => dfS EC sm zz 20) (f + 1))), (4, .int (nI ((f + 1) + 1)))] : List (Nat × Value)) = [(0, .ref h0), (1, .int (zI ((f : Int) + 1))), (2, .long (dfS EC sm ((f : Int) + 1) 20)), (4, .int (nI (f + 1 + 1)))] := (by rw [show moL (fun zz => dfS EC sm zz 20) (f + 1) = _ from hm1, show moB (fun zz => dfS EC sm zz 20) (f + 1) = _ from hm2])
          exact ih (f + 1) (by omega) H locs hP hD hS ls (by rw [hle]; exact lv_sub hl [5, 2, 3, 0] rfl)
      · have hln : dfS EC sm (-((f : Int) + 1)) 20 < moL (fun zz => dfS EC sm zz 20) f := Int64.not_le.mp cln
        refine lv_lload hx hb dX6_motion_66 (lv_at hl 0 rfl) ?_
        refine lv_lstore_n (lv' := [(2, .long (dfS EC sm (-((f : Int) + 1)) 20)), (6, .long (dfS EC sm (-((f : Int) + 1)) 20)), (5, .int (zI (-1))), (0, .ref h0), (1, .int (zI (moB (fun zz => dfS EC sm zz 20) f))), (4, .int (nI (f + 1)))]) hx hb dX6_motion_68 rfl hl (by decide) rfl (fun ls hl => ?_)
        refine lv_iload hx hb dX6_motion_69 (lv_at hl 2 rfl) ?_
        refine lv_iload hx hb dX6_motion_71 (lv_at hl 5 rfl) ?_
        refine lv_imul hx hb dX6_motion_73 ?_
        refine tp_i (zn_mul _ _) ?_
        refine tp_i (show (zI ((-1) * ((f + 1 : Nat) : Int)) : Int32) = zI (-((f : Int) + 1)) from congrArg zI (by omega)) ?_
        refine lv_istore_n (lv' := [(1, .int (zI (-((f : Int) + 1)))), (2, .long (dfS EC sm (-((f : Int) + 1)) 20)), (6, .long (dfS EC sm (-((f : Int) + 1)) 20)), (5, .int (zI (-1))), (0, .ref h0), (4, .int (nI (f + 1)))]) hx hb dX6_motion_74 rfl hl (by decide) rfl (fun ls hl => ?_)
        refine lv_iinc (v := zI 1) (lv' := [(5, .int (zI 1)), (1, .int (zI (-((f : Int) + 1)))), (2, .long (dfS EC sm (-((f : Int) + 1)) 20)), (6, .long (dfS EC sm (-((f : Int) + 1)) 20)), (0, .ref h0), (4, .int (nI (f + 1)))]) hx hb dX6_motion_75 hl (k := 3) rfl (by decide) (by decide) rfl (fun ls hl => ?_)
        refine lv_goto (tgt := 42) hx hb dX6_motion_78 (by decide) ?_
        refine lv_iload hx hb dX6_motion_42 (lv_at hl 0 rfl) ?_
        refine lv_iconst (v := nI 2) hx hb dX6_motion_44 (by decide) ?_
        refine ci_ge (tgt := 81) hx hb dX6_motion_45 (by decide) (zT (by omega) (by omega)) (nT (by omega)) (fun c_45 => by omega) (fun c_45 => ?_)
        refine lv_aload_n hx hb dX6_motion_48 rfl (lv_at hl 4 rfl) ?_
        refine lv_iload hx hb dX6_motion_49 (lv_at hl 0 rfl) ?_
        refine lv_iload hx hb dX6_motion_51 (lv_at hl 5 rfl) ?_
        refine lv_imul hx hb dX6_motion_53 ?_
        refine tp_i (zn_mul _ _) ?_
        refine tp_i (show (zI (1 * ((f + 1 : Nat) : Int)) : Int32) = zI ((f : Int) + 1) from congrArg zI (by omega)) ?_
        refine cr_l (wc := [(h0, .inr (6, [.int (nI 0), .int (nI mi), .int (nI me), .int (nI dp), .int (bI up), .int (nI dn), .ref ma, .ref mx, .ref mh, .ref mg, .ref mc, .ref mo, .ref mr, .ref mf, .long wp, .long wl, .int (nI ru), .int (nI sm), .ref mk, .ref ml])), (mk, .inl (cJ, 600, .inr (.inl EC)))]) (w1 := [(h0, .inr (6, [.int (nI 0), .int (nI mi), .int (nI me), .int (nI dp), .int (bI up), .int (nI dn), .ref ma, .ref mx, .ref mh, .ref mg, .ref mc, .ref mo, .ref mr, .ref mf, .long wp, .long wl, .int (nI ru), .int (nI sm), .ref mk, .ref ml])), (mk, .inl (cJ, 600, .inr (.inl EC)))]) (ws2 := [(h0, .inr (6, [.int (nI 0), .int (nI mi), .int (nI me), .int (nI dp), .int (bI up), .int (nI dn), .ref ma, .ref mx, .ref mh, .ref mg, .ref mc, .ref mo, .ref mr, .ref mf, .long wp, .long wl, .int (nI ru), .int (nI sm), .ref mk, .ref ml])), (mk, .inl (cJ, 600, .inr (.inl EC)))]) hP hD hS hA [0, 1] rfl rfl rfl (va_runV (As := [.int (zI ((f : Int) + 1))]) (rest := []) ⟨hx, hb, hml, hown, hts⟩ (c_X6_differs l D cI cJ cZ h0 0 mi me dp up dn ma mx mh mg mc mo mr mf mk ml wp wl ru sm EC ((f : Int) + 1) (by omega) (by omega) (by omega) (by omega) H.size) (cwV 1 hts gX6_motion_X6_differs rfl rfl rfl (by decide +kernel) ⟨Nat.le_of_ble_eq_true rfl, Nat.le_of_ble_eq_true rfl⟩) (pvV hT hP hD [0, 1] rfl rfl 0 rfl rfl) rfl rfl hl.1 rfl (lv_room (Nat.le_of_ble_eq_true rfl)) dX6_motion_54 ⟨Nat.zero_le _, Nat.zero_le _⟩) (fun H locs hP hD hS => ?_)
        refine lv_lstore (lv' := [(6, .long (dfS EC sm ((f : Int) + 1) 20)), (5, .int (zI 1)), (1, .int (zI (-((f : Int) + 1)))), (2, .long (dfS EC sm (-((f : Int) + 1)) 20)), (0, .ref h0), (4, .int (nI (f + 1)))]) hx hb dX6_motion_57 hl (by decide) rfl (fun ls hl => ?_)
        refine lv_lload hx hb dX6_motion_59 (lv_at hl 0 rfl) ?_
        refine lv_lload_n hx hb dX6_motion_61 rfl (lv_at hl 3 rfl) ?_
        refine cl_ge (tgt := 75) hx hb dX6_motion_62 dX6_motion_63 (by decide) (fun clp => ?_) (fun clp => ?_)
        · have hlp : ¬ dfS EC sm ((f : Int) + 1) 20 < dfS EC sm (-((f : Int) + 1)) 20 := Int64.not_lt.mpr clp
          have hlo : (if dfS EC sm (-((f : Int) + 1)) 20 < moL (fun zz => dfS EC sm zz 20) f then dfS EC sm (-((f : Int) + 1)) 20 else moL (fun zz => dfS EC sm zz 20) f) = dfS EC sm (-((f : Int) + 1)) 20 := if_pos hln
          have hm1 : moL (fun zz => dfS EC sm zz 20) (f + 1) = dfS EC sm (-((f : Int) + 1)) 20 := by show (if dfS EC sm ((f : Int) + 1) 20 < (if dfS EC sm (-((f : Int) + 1)) 20 < moL (fun zz => dfS EC sm zz 20) f then dfS EC sm (-((f : Int) + 1)) 20 else moL (fun zz => dfS EC sm zz 20) f) then dfS EC sm ((f : Int) + 1) 20 else (if dfS EC sm (-((f : Int) + 1)) 20 < moL (fun zz => dfS EC sm zz 20) f then dfS EC sm (-((f : Int) + 1)) 20 else moL (fun zz => dfS EC sm zz 20) f)) = _; rw [hlo, if_neg hlp]
          have hm2 : moB (fun zz => dfS EC sm zz 20) (f + 1) = -((f : Int) + 1) := by show (if dfS EC sm ((f : Int) + 1) 20 < (if dfS EC sm (-((f : Int) + 1)) 20 < moL (fun zz => dfS EC sm zz 20) f then dfS EC sm (-((f : Int) + 1)) 20 else moL (fun zz => dfS EC sm zz 20) f) then (f : Int) + 1 else if dfS EC sm (-((f : Int) + 1)) 20 < moL (fun zz => dfS EC sm zz 20) f then -((f : Int) + 1) else moB (fun zz => dfS EC sm zz 20) f) = _; rw [hlo, if_neg hlp, if_pos hln]
          refine lv_iinc (v := zI 3) (lv' := [(5, .int (zI 3)), (6, .long (dfS EC sm ((f : Int) + 1) 20)), (1, .int (zI (-((f : Int) + 1)))), (2, .long (dfS EC sm (-((f : Int) + 1)) 20)), (0, .ref h0), (4, .int (nI (f + 1)))]) hx hb dX6_motion_75 hl (k := 1) rfl (by decide) (by decide) rfl (fun ls hl => ?_)
          refine lv_goto (tgt := 42) hx hb dX6_motion_78 (by decide) ?_
          refine lv_iload hx hb dX6_motion_42 (lv_at hl 0 rfl) ?_
          refine lv_iconst (v := nI 2) hx hb dX6_motion_44 (by decide) ?_
          refine ci_ge (tgt := 81) hx hb dX6_motion_45 (by decide) (zT (by omega) (by omega)) (nT (by omega)) (fun c_45 => ?_) (fun c_45 => by omega)
          refine lv_iinc (v := nI (f + 1 + 1)) (lv' := [(4, .int (nI (f + 1 + 1))), (5, .int (zI 3)), (6, .long (dfS EC sm ((f : Int) + 1) 20)), (1, .int (zI (-((f : Int) + 1)))), (2, .long (dfS EC sm (-((f : Int) + 1)) 20)), (0, .ref h0)]) hx hb dX6_motion_81 hl (k := 5) rfl (n_inc (f + 1)) (by decide) rfl (fun ls hl => ?_)
          refine lv_goto (tgt := 33) hx hb dX6_motion_84 (by decide) ?_
          have hle : ([(0, .ref h0), (1, .int (zI (moB (fun zz => dfS EC sm zz 20) (f + 1)))), (2, .long (moL (fun zz => dfS EC sm zz 20) (f + 1))), (4, .int (nI ((f + 1) + 1)))] : List (Nat × Value)) = [(0, .ref h0), (1, .int (zI (-((f : Int) + 1)))), (2, .long (dfS EC sm (-((f : Int) + 1)) 20)), (4, .int (nI (f + 1 + 1)))] := (by rw [show moL (fun zz => dfS EC sm zz 20) (f + 1) = _ from hm1, show moB (fun zz => dfS EC sm zz 20) (f + 1) = _ from hm2])
          exact ih (f + 1) (by omega) H locs hP hD hS ls (by rw [hle]; exact lv_sub hl [5, 3, 4, 0] rfl)
        · have hlp : dfS EC sm ((f : Int) + 1) 20 < dfS EC sm (-((f : Int) + 1)) 20 := Int64.not_le.mp clp
          have hlo : (if dfS EC sm (-((f : Int) + 1)) 20 < moL (fun zz => dfS EC sm zz 20) f then dfS EC sm (-((f : Int) + 1)) 20 else moL (fun zz => dfS EC sm zz 20) f) = dfS EC sm (-((f : Int) + 1)) 20 := if_pos hln
          have hm1 : moL (fun zz => dfS EC sm zz 20) (f + 1) = dfS EC sm ((f : Int) + 1) 20 := by show (if dfS EC sm ((f : Int) + 1) 20 < (if dfS EC sm (-((f : Int) + 1)) 20 < moL (fun zz => dfS EC sm zz 20) f then dfS EC sm (-((f : Int) + 1)) 20 else moL (fun zz => dfS EC sm zz 20) f) then dfS EC sm ((f : Int) + 1) 20 else (if dfS EC sm (-((f : Int) + 1)) 20 < moL (fun zz => dfS EC sm zz 20) f then dfS EC sm (-((f : Int) + 1)) 20 else moL (fun zz => dfS EC sm zz 20) f)) = _; rw [hlo, if_pos hlp]
          have hm2 : moB (fun zz => dfS EC sm zz 20) (f + 1) = (f : Int) + 1 := by show (if dfS EC sm ((f : Int) + 1) 20 < (if dfS EC sm (-((f : Int) + 1)) 20 < moL (fun zz => dfS EC sm zz 20) f then dfS EC sm (-((f : Int) + 1)) 20 else moL (fun zz => dfS EC sm zz 20) f) then (f : Int) + 1 else if dfS EC sm (-((f : Int) + 1)) 20 < moL (fun zz => dfS EC sm zz 20) f then -((f : Int) + 1) else moB (fun zz => dfS EC sm zz 20) f) = _; rw [hlo, if_pos hlp]
          refine lv_lload hx hb dX6_motion_66 (lv_at hl 0 rfl) ?_
          refine lv_lstore_n (lv' := [(2, .long (dfS EC sm ((f : Int) + 1) 20)), (6, .long (dfS EC sm ((f : Int) + 1) 20)), (5, .int (zI 1)), (1, .int (zI (-((f : Int) + 1)))), (0, .ref h0), (4, .int (nI (f + 1)))]) hx hb dX6_motion_68 rfl hl (by decide) rfl (fun ls hl => ?_)
          refine lv_iload hx hb dX6_motion_69 (lv_at hl 2 rfl) ?_
          refine lv_iload hx hb dX6_motion_71 (lv_at hl 5 rfl) ?_
          refine lv_imul hx hb dX6_motion_73 ?_
          refine tp_i (zn_mul _ _) ?_
          refine tp_i (show (zI (1 * ((f + 1 : Nat) : Int)) : Int32) = zI ((f : Int) + 1) from congrArg zI (by omega)) ?_
          refine lv_istore_n (lv' := [(1, .int (zI ((f : Int) + 1))), (2, .long (dfS EC sm ((f : Int) + 1) 20)), (6, .long (dfS EC sm ((f : Int) + 1) 20)), (5, .int (zI 1)), (0, .ref h0), (4, .int (nI (f + 1)))]) hx hb dX6_motion_74 rfl hl (by decide) rfl (fun ls hl => ?_)
          refine lv_iinc (v := zI 3) (lv' := [(5, .int (zI 3)), (1, .int (zI ((f : Int) + 1))), (2, .long (dfS EC sm ((f : Int) + 1) 20)), (6, .long (dfS EC sm ((f : Int) + 1) 20)), (0, .ref h0), (4, .int (nI (f + 1)))]) hx hb dX6_motion_75 hl (k := 3) rfl (by decide) (by decide) rfl (fun ls hl => ?_)
          refine lv_goto (tgt := 42) hx hb dX6_motion_78 (by decide) ?_
          refine lv_iload hx hb dX6_motion_42 (lv_at hl 0 rfl) ?_
          refine lv_iconst (v := nI 2) hx hb dX6_motion_44 (by decide) ?_
          refine ci_ge (tgt := 81) hx hb dX6_motion_45 (by decide) (zT (by omega) (by omega)) (nT (by omega)) (fun c_45 => ?_) (fun c_45 => by omega)
          refine lv_iinc (v := nI (f + 1 + 1)) (lv' := [(4, .int (nI (f + 1 + 1))), (5, .int (zI 3)), (1, .int (zI ((f : Int) + 1))), (2, .long (dfS EC sm ((f : Int) + 1) 20)), (6, .long (dfS EC sm ((f : Int) + 1) 20)), (0, .ref h0)]) hx hb dX6_motion_81 hl (k := 5) rfl (n_inc (f + 1)) (by decide) rfl (fun ls hl => ?_)
          refine lv_goto (tgt := 33) hx hb dX6_motion_84 (by decide) ?_
          have hle : ([(0, .ref h0), (1, .int (zI (moB (fun zz => dfS EC sm zz 20) (f + 1)))), (2, .long (moL (fun zz => dfS EC sm zz 20) (f + 1))), (4, .int (nI ((f + 1) + 1)))] : List (Nat × Value)) = [(0, .ref h0), (1, .int (zI ((f : Int) + 1))), (2, .long (dfS EC sm ((f : Int) + 1) 20)), (4, .int (nI (f + 1 + 1)))] := (by rw [show moL (fun zz => dfS EC sm zz 20) (f + 1) = _ from hm1, show moB (fun zz => dfS EC sm zz 20) (f + 1) = _ from hm2])
          exact ih (f + 1) (by omega) H locs hP hD hS ls (by rw [hle]; exact lv_sub hl [5, 2, 3, 0] rfl)
  have hle : ([(0, .ref h0), (1, .int (zI (moB (fun zz => dfS EC sm zz 20) 0))), (2, .long (moL (fun zz => dfS EC sm zz 20) 0)), (4, .int (nI (0 + 1)))] : List (Nat × Value)) = [(0, .ref h0), (1, .int (zI 0)), (2, .long (dfS EC sm 0 20)), (4, .int (nI 1))] := rfl
  exact lp33 3 0 (by omega) H locs hP hD hS ls (by rw [hle]; exact lv_sub hl [3, 2, 1, 0] rfl)
set_option maxHeartbeats 4000000 in
set_option maxRecDepth 100000 in
theorem c_X6_collected (l : Launch) (D : va_G) (cI cJ cZ : ClassId) (h0 : Nat) (thr : Nat) (mi : Nat) (me : Nat) (dp : Nat) (up : Bool) (dn : Nat) (ma : Nat) (mx : Nat) (mh : Nat) (mg : Nat) (mc : Nat) (mo : Nat) (mr : Nat) (mf : Nat) (mk : Nat) (ml : Nat) (wp : Int64) (wl : Int64) (ru : Nat) (sm : Nat) (UP : Nat → Bool) (CO : Nat → Int64) (ki : Nat) (hki : ki < 20) (hup : UP ki = true) (sz : Nat) : Met l yX6_collected wsX6_collected ({ frames := 2, cells := 0, slots := 0, locals := 42 } : Room) (va_Pc [.ref h0, .int (nI ki)] (mPre D cI cJ cZ [(h0, .inr (6, [.int (nI thr), .int (nI mi), .int (nI me), .int (nI dp), .int (bI up), .int (nI dn), .ref ma, .ref mx, .ref mh, .ref mg, .ref mc, .ref mo, .ref mr, .ref mf, .long wp, .long wl, .int (nI ru), .int (nI sm), .ref mk, .ref ml])), (mg, .inl (cZ, 20, .inl (bA UP))), (mo, .inl (cJ, 20, .inr (.inl CO)))] sz)) (Ql9 D (va_A [(h0, .inr (6, [.int (nI thr), .int (nI mi), .int (nI me), .int (nI dp), .int (bI up), .int (nI dn), .ref ma, .ref mx, .ref mh, .ref mg, .ref mc, .ref mo, .ref mr, .ref mf, .long wp, .long wl, .int (nI ru), .int (nI sm), .ref mk, .ref ml])), (mg, .inl (cZ, 20, .inl (bA UP))), (mo, .inl (cJ, 20, .inr (.inl CO)))] sz) [(h0, .inr (6, [.int (nI 0), .int (nI mi), .int (nI me), .int (nI dp), .int (bI up), .int (nI dn), .ref ma, .ref mx, .ref mh, .ref mg, .ref mc, .ref mo, .ref mr, .ref mf, .long wp, .long wl, .int (nI ru), .int (nI sm), .ref mk, .ref ml])), (mg, .inl (cZ, 20, .inl (bA UP))), (mo, .inl (cJ, 20, .inr (.inl CO)))] (CO ki)) 0 0 (va_A [(h0, .inr (6, [.int (nI thr), .int (nI mi), .int (nI me), .int (nI dp), .int (bI up), .int (nI dn), .ref ma, .ref mx, .ref mh, .ref mg, .ref mc, .ref mo, .ref mr, .ref mf, .long wp, .long wl, .int (nI ru), .int (nI sm), .ref mk, .ref ml])), (mg, .inl (cZ, 20, .inl (bA UP))), (mo, .inl (cJ, 20, .inr (.inl CO)))] sz) := by
  refine Met.ofW (cc := cX6_collected) (maxL := 2) (ret := (some .long)) (by decide) rfl ?_
  intro p e s m args below meth c s₁ B hml hv
  obtain ⟨hargs, hsz, hP, hT, hD0⟩ := hv
  have hx := B.exec
  have hb := B.bytes
  have hr := B.returns
  have hts := atoms_spec (ws := wsX6_collected) B.pre
  have hown : s.vm.findClass RX6 = some m.cls := findClass_of_methodNamed B.named
  have hlocks := B.notSynchronized
  subst hsz
  have hK := hT.1
  have hD := hD0.self (sz := s.heap.size)
  generalize hAe : va_A [(h0, .inr (6, [.int (nI thr), .int (nI mi), .int (nI me), .int (nI dp), .int (bI up), .int (nI dn), .ref ma, .ref mx, .ref mh, .ref mg, .ref mc, .ref mo, .ref mr, .ref mf, .long wp, .long wl, .int (nI ru), .int (nI sm), .ref mk, .ref ml])), (mg, .inl (cZ, 20, .inl (bA UP))), (mo, .inl (cJ, 20, .inr (.inl CO)))] s.heap.size = A at hD ⊢
  have hA : ∀ q : Nat, s.heap.size ≤ q → A q := fun q h => by rw [← hAe]; exact Or.inr h
  have hS : va_S A s.heap s.heap [] := va_S.rf
  obtain ⟨H, hHe⟩ : ∃ H : Heap, H = s.heap := ⟨_, rfl⟩
  have hS : va_S A s.heap H [] := by rw [hHe]; exact va_S.rf
  rw [← hHe] at hP
  suffices K0 : W p l e (headSpec wsX6_collected ({ frames := 2, cells := 0, slots := 0, locals := 42 } : Room)).room s m args below meth c H [] 0 0 (MQ below (Ql9 D A [(h0, .inr (6, [.int (nI 0), .int (nI mi), .int (nI me), .int (nI dp), .int (bI up), .int (nI dn), .ref ma, .ref mx, .ref mh, .ref mg, .ref mc, .ref mo, .ref mr, .ref mf, .long wp, .long wl, .int (nI ru), .int (nI sm), .ref mk, .ref ml])), (mg, .inl (cZ, 20, .inl (bA UP))), (mo, .inl (cJ, 20, .inr (.inl CO)))] (CO ki)) args s 0 0 A) (entryFrame m args 2) by rw [hHe] at K0; exact K0
  refine W.eq (g2 := entryFrame m ([.ref h0, .int (nI ki)] : List Value).toArray 2) (by rw [hargs]) ?_
  have hl := lv_entry ([.ref h0, .int (nI ki)]) (n := 2) (Nat.le_of_ble_eq_true rfl)
  rw [lg_entry_eq]
  generalize (lg_sl ([.ref h0, .int (nI ki)]) ++ List.replicate (2 - (lg_sl ([.ref h0, .int (nI ki)])).length) Slot.unset).toArray = ls at hl ⊢
  have hl : lv_has ls 2 [(0, .ref h0), (1, .int (nI ki))] := hl
  generalize ([] : List Loc) = locs at hS ⊢
  have hinX6 : ∀ w ∈ wsX60, w ∈ wsX6_collected := by decide +kernel
  have hf23 := hts (.fieldLink RX6 23 "BrightbandModel" "hasGauge" "[Z") (by decide +kernel)
  have hf30 := hts (.fieldLink RX6 30 "BrightbandModel" "collected" "[J") (by decide +kernel)
  refine lv_aload_n hx hb dX6_collected_0 rfl (lv_at hl 0 rfl) ?_
  refine lv_iload_n hx hb dX6_collected_1 rfl (lv_at hl 1 rfl) ?_
  refine cr_i (wc := []) (w1 := []) (ws2 := [(h0, .inr (6, [.int (nI thr), .int (nI mi), .int (nI me), .int (nI dp), .int (bI up), .int (nI dn), .ref ma, .ref mx, .ref mh, .ref mg, .ref mc, .ref mo, .ref mr, .ref mf, .long wp, .long wl, .int (nI ru), .int (nI sm), .ref mk, .ref ml])), (mg, .inl (cZ, 20, .inl (bA UP))), (mo, .inl (cJ, 20, .inr (.inl CO)))]) hP hD hS hA [] rfl rfl rfl (va_runS (As := [.int (nI ki)]) (rest := [.ref h0]) ⟨hx, hb, hml, hown, hts⟩ (c_X6_isPlace_T l D cI cJ cZ ki (by omega) H.size) (va_cwS 1 hts gX6_collected_X6_isPlace rfl rfl rfl (by decide +kernel) ⟨Nat.le_of_ble_eq_true rfl, Nat.le_of_ble_eq_true rfl⟩) (pvS hT hP hD [] rfl rfl) rfl rfl hl.1 rfl (lv_room (Nat.le_of_ble_eq_true rfl)) dX6_collected_2 ⟨Nat.zero_le _, Nat.zero_le _⟩) (fun H locs hP hD hS => ?_)
  refine cb_eq (tgt := 21) hx hb dX6_collected_5 (by decide) (fun c_5 => absurd c_5 (by decide)) (fun c_5 => ?_)
  refine lv_aload_n hx hb dX6_collected_8 rfl (lv_at hl 0 rfl) ?_
  refine va_get (D := D) (ci := 6) (v := .ref mg) (C := RX6) (T := TX6) (N := 20) hx hb hts hinX6 hown hK hP 0 rfl rfl 9 (by decide) hf23 (fun _ h9 => h9) rfl dX6_collected_9 ?_
  refine lv_iload_n hx hb dX6_collected_12 rfl (lv_at hl 1 rfl) ?_
  refine ald_B hx hb hK hP 1 2 rfl rfl ki rfl (by omega) (Nat.le_of_ble_eq_true rfl) dX6_collected_13 ?_
  refine cb_eq (tgt := 21) hx hb dX6_collected_14 (by decide) (fun c_14 => by rw [hup] at c_14; cases c_14) (fun c_14 => ?_)
  refine lv_iconst (v := nI 0) hx hb dX6_collected_17 (by decide) ?_
  refine lv_goto (tgt := 22) hx hb dX6_collected_18 (by decide) ?_
  refine cr_i (wc := [(h0, .inr (6, [.int (nI thr), .int (nI mi), .int (nI me), .int (nI dp), .int (bI up), .int (nI dn), .ref ma, .ref mx, .ref mh, .ref mg, .ref mc, .ref mo, .ref mr, .ref mf, .long wp, .long wl, .int (nI ru), .int (nI sm), .ref mk, .ref ml]))]) (w1 := [(h0, .inr (6, [.int (nI 0), .int (nI mi), .int (nI me), .int (nI dp), .int (bI up), .int (nI dn), .ref ma, .ref mx, .ref mh, .ref mg, .ref mc, .ref mo, .ref mr, .ref mf, .long wp, .long wl, .int (nI ru), .int (nI sm), .ref mk, .ref ml]))]) (ws2 := [(h0, .inr (6, [.int (nI 0), .int (nI mi), .int (nI me), .int (nI dp), .int (bI up), .int (nI dn), .ref ma, .ref mx, .ref mh, .ref mg, .ref mc, .ref mo, .ref mr, .ref mf, .long wp, .long wl, .int (nI ru), .int (nI sm), .ref mk, .ref ml])), (mg, .inl (cZ, 20, .inl (bA UP))), (mo, .inl (cJ, 20, .inr (.inl CO)))]) hP hD hS hA [0] rfl rfl rfl (va_runV (As := [.int (nI 0)]) (rest := []) ⟨hx, hb, hml, hown, hts⟩ (c_X6_goesWell_ok l D cI cJ cZ h0 thr mi me dp up dn ma mx mh mg mc mo mr mf mk ml wp wl ru sm H.size) (cwV 1 hts gX6_collected_X6_goesWell rfl rfl rfl (by decide +kernel) ⟨Nat.le_of_ble_eq_true rfl, Nat.le_of_ble_eq_true rfl⟩) (pvV hT hP hD [0] rfl rfl 0 rfl rfl) rfl rfl hl.1 rfl (lv_room (Nat.le_of_ble_eq_true rfl)) dX6_collected_22 ⟨Nat.zero_le _, Nat.zero_le _⟩) (fun H locs hP hD hS => ?_)
  refine cb_eq (tgt := 37) hx hb dX6_collected_25 (by decide) (fun c_25 => absurd c_25 (by decide)) (fun c_25 => ?_)
  refine lv_aload_n hx hb dX6_collected_28 rfl (lv_at hl 0 rfl) ?_
  refine va_get (D := D) (ci := 6) (v := .ref mo) (C := RX6) (T := TX6) (N := 20) hx hb hts hinX6 hown hK hP 0 rfl rfl 11 (by decide) hf30 (fun _ h9 => h9) rfl dX6_collected_29 ?_
  refine lv_iload_n hx hb dX6_collected_32 rfl (lv_at hl 1 rfl) ?_
  refine ald_L hx hb hK hP 2 1 rfl rfl ki rfl (by omega) (Nat.le_of_ble_eq_true rfl) dX6_collected_33 ?_
  refine lv_goto (tgt := 38) hx hb dX6_collected_34 (by decide) ?_
  exact fin_l hx hb hr hlocks hP hD hS (rfl) dX6_collected_38
set_option maxHeartbeats 4000000 in
set_option maxRecDepth 100000 in
theorem c_X6_ground (l : Launch) (D : va_G) (cI cJ cZ : ClassId) (h0 : Nat) (thr : Nat) (mi : Nat) (me : Nat) (dp : Nat) (up : Bool) (dn : Nat) (ma : Nat) (mx : Nat) (mh : Nat) (mg : Nat) (mc : Nat) (mo : Nat) (mr : Nat) (mf : Nat) (mk : Nat) (ml : Nat) (wp : Int64) (wl : Int64) (ru : Nat) (sm : Nat) (GR : Nat → Int64) (ki : Nat) (hki : ki < 20) (sz : Nat) : Met l yX6_ground wsX6_ground ({ frames := 2, cells := 0, slots := 0, locals := 42 } : Room) (va_Pc [.ref h0, .int (nI ki)] (mPre D cI cJ cZ [(h0, .inr (6, [.int (nI thr), .int (nI mi), .int (nI me), .int (nI dp), .int (bI up), .int (nI dn), .ref ma, .ref mx, .ref mh, .ref mg, .ref mc, .ref mo, .ref mr, .ref mf, .long wp, .long wl, .int (nI ru), .int (nI sm), .ref mk, .ref ml])), (mr, .inl (cJ, 20, .inr (.inl GR)))] sz)) (Ql9 D (va_A [(h0, .inr (6, [.int (nI thr), .int (nI mi), .int (nI me), .int (nI dp), .int (bI up), .int (nI dn), .ref ma, .ref mx, .ref mh, .ref mg, .ref mc, .ref mo, .ref mr, .ref mf, .long wp, .long wl, .int (nI ru), .int (nI sm), .ref mk, .ref ml])), (mr, .inl (cJ, 20, .inr (.inl GR)))] sz) [(h0, .inr (6, [.int (nI 0), .int (nI mi), .int (nI me), .int (nI dp), .int (bI up), .int (nI dn), .ref ma, .ref mx, .ref mh, .ref mg, .ref mc, .ref mo, .ref mr, .ref mf, .long wp, .long wl, .int (nI ru), .int (nI sm), .ref mk, .ref ml])), (mr, .inl (cJ, 20, .inr (.inl GR)))] (GR ki)) 0 0 (va_A [(h0, .inr (6, [.int (nI thr), .int (nI mi), .int (nI me), .int (nI dp), .int (bI up), .int (nI dn), .ref ma, .ref mx, .ref mh, .ref mg, .ref mc, .ref mo, .ref mr, .ref mf, .long wp, .long wl, .int (nI ru), .int (nI sm), .ref mk, .ref ml])), (mr, .inl (cJ, 20, .inr (.inl GR)))] sz) := by
  refine Met.ofW (cc := cX6_ground) (maxL := 2) (ret := (some .long)) (by decide) rfl ?_
  intro p e s m args below meth c s₁ B hml hv
  obtain ⟨hargs, hsz, hP, hT, hD0⟩ := hv
  have hx := B.exec
  have hb := B.bytes
  have hr := B.returns
  have hts := atoms_spec (ws := wsX6_ground) B.pre
  have hown : s.vm.findClass RX6 = some m.cls := findClass_of_methodNamed B.named
  have hlocks := B.notSynchronized
  subst hsz
  have hK := hT.1
  have hD := hD0.self (sz := s.heap.size)
  generalize hAe : va_A [(h0, .inr (6, [.int (nI thr), .int (nI mi), .int (nI me), .int (nI dp), .int (bI up), .int (nI dn), .ref ma, .ref mx, .ref mh, .ref mg, .ref mc, .ref mo, .ref mr, .ref mf, .long wp, .long wl, .int (nI ru), .int (nI sm), .ref mk, .ref ml])), (mr, .inl (cJ, 20, .inr (.inl GR)))] s.heap.size = A at hD ⊢
  have hA : ∀ q : Nat, s.heap.size ≤ q → A q := fun q h => by rw [← hAe]; exact Or.inr h
  have hS : va_S A s.heap s.heap [] := va_S.rf
  obtain ⟨H, hHe⟩ : ∃ H : Heap, H = s.heap := ⟨_, rfl⟩
  have hS : va_S A s.heap H [] := by rw [hHe]; exact va_S.rf
  rw [← hHe] at hP
  suffices K0 : W p l e (headSpec wsX6_ground ({ frames := 2, cells := 0, slots := 0, locals := 42 } : Room)).room s m args below meth c H [] 0 0 (MQ below (Ql9 D A [(h0, .inr (6, [.int (nI 0), .int (nI mi), .int (nI me), .int (nI dp), .int (bI up), .int (nI dn), .ref ma, .ref mx, .ref mh, .ref mg, .ref mc, .ref mo, .ref mr, .ref mf, .long wp, .long wl, .int (nI ru), .int (nI sm), .ref mk, .ref ml])), (mr, .inl (cJ, 20, .inr (.inl GR)))] (GR ki)) args s 0 0 A) (entryFrame m args 2) by rw [hHe] at K0; exact K0
  refine W.eq (g2 := entryFrame m ([.ref h0, .int (nI ki)] : List Value).toArray 2) (by rw [hargs]) ?_
  have hl := lv_entry ([.ref h0, .int (nI ki)]) (n := 2) (Nat.le_of_ble_eq_true rfl)
  rw [lg_entry_eq]
  generalize (lg_sl ([.ref h0, .int (nI ki)]) ++ List.replicate (2 - (lg_sl ([.ref h0, .int (nI ki)])).length) Slot.unset).toArray = ls at hl ⊢
  have hl : lv_has ls 2 [(0, .ref h0), (1, .int (nI ki))] := hl
  generalize ([] : List Loc) = locs at hS ⊢
  have hinX6 : ∀ w ∈ wsX60, w ∈ wsX6_ground := by decide +kernel
  have hf34 := hts (.fieldLink RX6 34 "BrightbandModel" "ground" "[J") (by decide +kernel)
  refine lv_aload_n hx hb dX6_ground_0 rfl (lv_at hl 0 rfl) ?_
  refine lv_iload_n hx hb dX6_ground_1 rfl (lv_at hl 1 rfl) ?_
  refine cr_i (wc := []) (w1 := []) (ws2 := [(h0, .inr (6, [.int (nI thr), .int (nI mi), .int (nI me), .int (nI dp), .int (bI up), .int (nI dn), .ref ma, .ref mx, .ref mh, .ref mg, .ref mc, .ref mo, .ref mr, .ref mf, .long wp, .long wl, .int (nI ru), .int (nI sm), .ref mk, .ref ml])), (mr, .inl (cJ, 20, .inr (.inl GR)))]) hP hD hS hA [] rfl rfl rfl (va_runS (As := [.int (nI ki)]) (rest := [.ref h0]) ⟨hx, hb, hml, hown, hts⟩ (c_X6_isPlace_T l D cI cJ cZ ki (by omega) H.size) (va_cwS 1 hts gX6_ground_X6_isPlace rfl rfl rfl (by decide +kernel) ⟨Nat.le_of_ble_eq_true rfl, Nat.le_of_ble_eq_true rfl⟩) (pvS hT hP hD [] rfl rfl) rfl rfl hl.1 rfl (lv_room (Nat.le_of_ble_eq_true rfl)) dX6_ground_2 ⟨Nat.zero_le _, Nat.zero_le _⟩) (fun H locs hP hD hS => ?_)
  refine cb_eq (tgt := 12) hx hb dX6_ground_5 (by decide) (fun c_5 => absurd c_5 (by decide)) (fun c_5 => ?_)
  refine lv_iconst (v := nI 0) hx hb dX6_ground_8 (by decide) ?_
  refine lv_goto (tgt := 13) hx hb dX6_ground_9 (by decide) ?_
  refine cr_i (wc := [(h0, .inr (6, [.int (nI thr), .int (nI mi), .int (nI me), .int (nI dp), .int (bI up), .int (nI dn), .ref ma, .ref mx, .ref mh, .ref mg, .ref mc, .ref mo, .ref mr, .ref mf, .long wp, .long wl, .int (nI ru), .int (nI sm), .ref mk, .ref ml]))]) (w1 := [(h0, .inr (6, [.int (nI 0), .int (nI mi), .int (nI me), .int (nI dp), .int (bI up), .int (nI dn), .ref ma, .ref mx, .ref mh, .ref mg, .ref mc, .ref mo, .ref mr, .ref mf, .long wp, .long wl, .int (nI ru), .int (nI sm), .ref mk, .ref ml]))]) (ws2 := [(h0, .inr (6, [.int (nI 0), .int (nI mi), .int (nI me), .int (nI dp), .int (bI up), .int (nI dn), .ref ma, .ref mx, .ref mh, .ref mg, .ref mc, .ref mo, .ref mr, .ref mf, .long wp, .long wl, .int (nI ru), .int (nI sm), .ref mk, .ref ml])), (mr, .inl (cJ, 20, .inr (.inl GR)))]) hP hD hS hA [0] rfl rfl rfl (va_runV (As := [.int (nI 0)]) (rest := []) ⟨hx, hb, hml, hown, hts⟩ (c_X6_goesWell_ok l D cI cJ cZ h0 thr mi me dp up dn ma mx mh mg mc mo mr mf mk ml wp wl ru sm H.size) (cwV 1 hts gX6_ground_X6_goesWell rfl rfl rfl (by decide +kernel) ⟨Nat.le_of_ble_eq_true rfl, Nat.le_of_ble_eq_true rfl⟩) (pvV hT hP hD [0] rfl rfl 0 rfl rfl) rfl rfl hl.1 rfl (lv_room (Nat.le_of_ble_eq_true rfl)) dX6_ground_13 ⟨Nat.zero_le _, Nat.zero_le _⟩) (fun H locs hP hD hS => ?_)
  refine cb_eq (tgt := 28) hx hb dX6_ground_16 (by decide) (fun c_16 => absurd c_16 (by decide)) (fun c_16 => ?_)
  refine lv_aload_n hx hb dX6_ground_19 rfl (lv_at hl 0 rfl) ?_
  refine va_get (D := D) (ci := 6) (v := .ref mr) (C := RX6) (T := TX6) (N := 20) hx hb hts hinX6 hown hK hP 0 rfl rfl 12 (by decide) hf34 (fun _ h9 => h9) rfl dX6_ground_20 ?_
  refine lv_iload_n hx hb dX6_ground_23 rfl (lv_at hl 1 rfl) ?_
  refine ald_L hx hb hK hP 1 1 rfl rfl ki rfl (by omega) (Nat.le_of_ble_eq_true rfl) dX6_ground_24 ?_
  refine lv_goto (tgt := 29) hx hb dX6_ground_25 (by decide) ?_
  exact fin_l hx hb hr hlocks hP hD hS (rfl) dX6_ground_29
set_option maxHeartbeats 4000000 in
set_option maxRecDepth 100000 in
theorem c_X6_groundAnew (l : Launch) (D : va_G) (cI cJ cZ : ClassId) (h0 : Nat) (thr : Nat) (mi : Nat) (me : Nat) (dp : Nat) (up : Bool) (dn : Nat) (ma : Nat) (mx : Nat) (mh : Nat) (mg : Nat) (mc : Nat) (mo : Nat) (mr : Nat) (mf : Nat) (mk : Nat) (ml : Nat) (wp : Int64) (wl : Int64) (ru : Nat) (sm : Nat) (GR : Nat → Int64) (ki : Nat) (hki : ki < 20) (sz : Nat) : Met l yX6_groundAnew wsX6_groundAnew ({ frames := 2, cells := 0, slots := 0, locals := 42 } : Room) (va_Pc [.ref h0, .int (nI ki)] (mPre D cI cJ cZ [(h0, .inr (6, [.int (nI thr), .int (nI mi), .int (nI me), .int (nI dp), .int (bI up), .int (nI dn), .ref ma, .ref mx, .ref mh, .ref mg, .ref mc, .ref mo, .ref mr, .ref mf, .long wp, .long wl, .int (nI ru), .int (nI sm), .ref mk, .ref ml])), (mr, .inl (cJ, 20, .inr (.inl GR)))] sz)) (Ql9 D (va_A [(h0, .inr (6, [.int (nI thr), .int (nI mi), .int (nI me), .int (nI dp), .int (bI up), .int (nI dn), .ref ma, .ref mx, .ref mh, .ref mg, .ref mc, .ref mo, .ref mr, .ref mf, .long wp, .long wl, .int (nI ru), .int (nI sm), .ref mk, .ref ml])), (mr, .inl (cJ, 20, .inr (.inl GR)))] sz) [(h0, .inr (6, [.int (nI 0), .int (nI mi), .int (nI me), .int (nI dp), .int (bI up), .int (nI dn), .ref ma, .ref mx, .ref mh, .ref mg, .ref mc, .ref mo, .ref mr, .ref mf, .long wp, .long wl, .int (nI ru), .int (nI sm), .ref mk, .ref ml])), (mr, .inl (cJ, 20, .inr (.inl GR)))] (GR ki)) 0 0 (va_A [(h0, .inr (6, [.int (nI thr), .int (nI mi), .int (nI me), .int (nI dp), .int (bI up), .int (nI dn), .ref ma, .ref mx, .ref mh, .ref mg, .ref mc, .ref mo, .ref mr, .ref mf, .long wp, .long wl, .int (nI ru), .int (nI sm), .ref mk, .ref ml])), (mr, .inl (cJ, 20, .inr (.inl GR)))] sz) := by
  refine Met.ofW (cc := cX6_groundAnew) (maxL := 2) (ret := (some .long)) (by decide) rfl ?_
  intro p e s m args below meth c s₁ B hml hv
  obtain ⟨hargs, hsz, hP, hT, hD0⟩ := hv
  have hx := B.exec
  have hb := B.bytes
  have hr := B.returns
  have hts := atoms_spec (ws := wsX6_groundAnew) B.pre
  have hown : s.vm.findClass RX6 = some m.cls := findClass_of_methodNamed B.named
  have hlocks := B.notSynchronized
  subst hsz
  have hK := hT.1
  have hD := hD0.self (sz := s.heap.size)
  generalize hAe : va_A [(h0, .inr (6, [.int (nI thr), .int (nI mi), .int (nI me), .int (nI dp), .int (bI up), .int (nI dn), .ref ma, .ref mx, .ref mh, .ref mg, .ref mc, .ref mo, .ref mr, .ref mf, .long wp, .long wl, .int (nI ru), .int (nI sm), .ref mk, .ref ml])), (mr, .inl (cJ, 20, .inr (.inl GR)))] s.heap.size = A at hD ⊢
  have hA : ∀ q : Nat, s.heap.size ≤ q → A q := fun q h => by rw [← hAe]; exact Or.inr h
  have hS : va_S A s.heap s.heap [] := va_S.rf
  obtain ⟨H, hHe⟩ : ∃ H : Heap, H = s.heap := ⟨_, rfl⟩
  have hS : va_S A s.heap H [] := by rw [hHe]; exact va_S.rf
  rw [← hHe] at hP
  suffices K0 : W p l e (headSpec wsX6_groundAnew ({ frames := 2, cells := 0, slots := 0, locals := 42 } : Room)).room s m args below meth c H [] 0 0 (MQ below (Ql9 D A [(h0, .inr (6, [.int (nI 0), .int (nI mi), .int (nI me), .int (nI dp), .int (bI up), .int (nI dn), .ref ma, .ref mx, .ref mh, .ref mg, .ref mc, .ref mo, .ref mr, .ref mf, .long wp, .long wl, .int (nI ru), .int (nI sm), .ref mk, .ref ml])), (mr, .inl (cJ, 20, .inr (.inl GR)))] (GR ki)) args s 0 0 A) (entryFrame m args 2) by rw [hHe] at K0; exact K0
  refine W.eq (g2 := entryFrame m ([.ref h0, .int (nI ki)] : List Value).toArray 2) (by rw [hargs]) ?_
  have hl := lv_entry ([.ref h0, .int (nI ki)]) (n := 2) (Nat.le_of_ble_eq_true rfl)
  rw [lg_entry_eq]
  generalize (lg_sl ([.ref h0, .int (nI ki)]) ++ List.replicate (2 - (lg_sl ([.ref h0, .int (nI ki)])).length) Slot.unset).toArray = ls at hl ⊢
  have hl : lv_has ls 2 [(0, .ref h0), (1, .int (nI ki))] := hl
  generalize ([] : List Loc) = locs at hS ⊢
  have hinX6 : ∀ w ∈ wsX60, w ∈ wsX6_groundAnew := by decide +kernel
  have hf34 := hts (.fieldLink RX6 34 "BrightbandModel" "ground" "[J") (by decide +kernel)
  refine lv_aload_n hx hb dX6_groundAnew_0 rfl (lv_at hl 0 rfl) ?_
  refine lv_iload_n hx hb dX6_groundAnew_1 rfl (lv_at hl 1 rfl) ?_
  refine cr_i (wc := []) (w1 := []) (ws2 := [(h0, .inr (6, [.int (nI thr), .int (nI mi), .int (nI me), .int (nI dp), .int (bI up), .int (nI dn), .ref ma, .ref mx, .ref mh, .ref mg, .ref mc, .ref mo, .ref mr, .ref mf, .long wp, .long wl, .int (nI ru), .int (nI sm), .ref mk, .ref ml])), (mr, .inl (cJ, 20, .inr (.inl GR)))]) hP hD hS hA [] rfl rfl rfl (va_runS (As := [.int (nI ki)]) (rest := [.ref h0]) ⟨hx, hb, hml, hown, hts⟩ (c_X6_isPlace_T l D cI cJ cZ ki (by omega) H.size) (va_cwS 1 hts gX6_groundAnew_X6_isPlace rfl rfl rfl (by decide +kernel) ⟨Nat.le_of_ble_eq_true rfl, Nat.le_of_ble_eq_true rfl⟩) (pvS hT hP hD [] rfl rfl) rfl rfl hl.1 rfl (lv_room (Nat.le_of_ble_eq_true rfl)) dX6_groundAnew_2 ⟨Nat.zero_le _, Nat.zero_le _⟩) (fun H locs hP hD hS => ?_)
  refine cb_eq (tgt := 12) hx hb dX6_groundAnew_5 (by decide) (fun c_5 => absurd c_5 (by decide)) (fun c_5 => ?_)
  refine lv_iconst (v := nI 0) hx hb dX6_groundAnew_8 (by decide) ?_
  refine lv_goto (tgt := 13) hx hb dX6_groundAnew_9 (by decide) ?_
  refine cr_i (wc := [(h0, .inr (6, [.int (nI thr), .int (nI mi), .int (nI me), .int (nI dp), .int (bI up), .int (nI dn), .ref ma, .ref mx, .ref mh, .ref mg, .ref mc, .ref mo, .ref mr, .ref mf, .long wp, .long wl, .int (nI ru), .int (nI sm), .ref mk, .ref ml]))]) (w1 := [(h0, .inr (6, [.int (nI 0), .int (nI mi), .int (nI me), .int (nI dp), .int (bI up), .int (nI dn), .ref ma, .ref mx, .ref mh, .ref mg, .ref mc, .ref mo, .ref mr, .ref mf, .long wp, .long wl, .int (nI ru), .int (nI sm), .ref mk, .ref ml]))]) (ws2 := [(h0, .inr (6, [.int (nI 0), .int (nI mi), .int (nI me), .int (nI dp), .int (bI up), .int (nI dn), .ref ma, .ref mx, .ref mh, .ref mg, .ref mc, .ref mo, .ref mr, .ref mf, .long wp, .long wl, .int (nI ru), .int (nI sm), .ref mk, .ref ml])), (mr, .inl (cJ, 20, .inr (.inl GR)))]) hP hD hS hA [0] rfl rfl rfl (va_runV (As := [.int (nI 0)]) (rest := []) ⟨hx, hb, hml, hown, hts⟩ (c_X6_goesWell_ok l D cI cJ cZ h0 thr mi me dp up dn ma mx mh mg mc mo mr mf mk ml wp wl ru sm H.size) (cwV 1 hts gX6_groundAnew_X6_goesWell rfl rfl rfl (by decide +kernel) ⟨Nat.le_of_ble_eq_true rfl, Nat.le_of_ble_eq_true rfl⟩) (pvV hT hP hD [0] rfl rfl 0 rfl rfl) rfl rfl hl.1 rfl (lv_room (Nat.le_of_ble_eq_true rfl)) dX6_groundAnew_13 ⟨Nat.zero_le _, Nat.zero_le _⟩) (fun H locs hP hD hS => ?_)
  refine cb_eq (tgt := 28) hx hb dX6_groundAnew_16 (by decide) (fun c_16 => absurd c_16 (by decide)) (fun c_16 => ?_)
  refine lv_aload_n hx hb dX6_groundAnew_19 rfl (lv_at hl 0 rfl) ?_
  refine va_get (D := D) (ci := 6) (v := .ref mr) (C := RX6) (T := TX6) (N := 20) hx hb hts hinX6 hown hK hP 0 rfl rfl 12 (by decide) hf34 (fun _ h9 => h9) rfl dX6_groundAnew_20 ?_
  refine lv_iload_n hx hb dX6_groundAnew_23 rfl (lv_at hl 1 rfl) ?_
  refine ald_L hx hb hK hP 1 1 rfl rfl ki rfl (by omega) (Nat.le_of_ble_eq_true rfl) dX6_groundAnew_24 ?_
  refine lv_goto (tgt := 29) hx hb dX6_groundAnew_25 (by decide) ?_
  exact fin_l hx hb hr hlocks hP hD hS (rfl) dX6_groundAnew_29
set_option maxHeartbeats 4000000 in
set_option maxRecDepth 100000 in
theorem c_X6_water_0 (l : Launch) (D : va_G) (cI cJ cZ : ClassId) (h0 : Nat) (thr : Nat) (mi : Nat) (me : Nat) (dp : Nat) (up : Bool) (dn : Nat) (ma : Nat) (mx : Nat) (mh : Nat) (mg : Nat) (mc : Nat) (mo : Nat) (mr : Nat) (mf : Nat) (mk : Nat) (ml : Nat) (wp : Int64) (wl : Int64) (ru : Nat) (sm : Nat) (sz : Nat) : Met l yX6_water wsX6_water ({ frames := 1, cells := 0, slots := 0, locals := 22 } : Room) (va_Pc [.ref h0, .int (nI 0)] (mPre D cI cJ cZ [(h0, .inr (6, [.int (nI thr), .int (nI mi), .int (nI me), .int (nI dp), .int (bI up), .int (nI dn), .ref ma, .ref mx, .ref mh, .ref mg, .ref mc, .ref mo, .ref mr, .ref mf, .long wp, .long wl, .int (nI ru), .int (nI sm), .ref mk, .ref ml]))] sz)) (Ql9 D (va_A [(h0, .inr (6, [.int (nI thr), .int (nI mi), .int (nI me), .int (nI dp), .int (bI up), .int (nI dn), .ref ma, .ref mx, .ref mh, .ref mg, .ref mc, .ref mo, .ref mr, .ref mf, .long wp, .long wl, .int (nI ru), .int (nI sm), .ref mk, .ref ml]))] sz) [(h0, .inr (6, [.int (nI 0), .int (nI mi), .int (nI me), .int (nI dp), .int (bI up), .int (nI dn), .ref ma, .ref mx, .ref mh, .ref mg, .ref mc, .ref mo, .ref mr, .ref mf, .long wp, .long wl, .int (nI ru), .int (nI sm), .ref mk, .ref ml]))] (wp)) 0 0 (va_A [(h0, .inr (6, [.int (nI thr), .int (nI mi), .int (nI me), .int (nI dp), .int (bI up), .int (nI dn), .ref ma, .ref mx, .ref mh, .ref mg, .ref mc, .ref mo, .ref mr, .ref mf, .long wp, .long wl, .int (nI ru), .int (nI sm), .ref mk, .ref ml]))] sz) := by
  refine Met.ofW (cc := cX6_water) (maxL := 6) (ret := (some .long)) (by decide) rfl ?_
  intro p e s m args below meth c s₁ B hml hv
  obtain ⟨hargs, hsz, hP, hT, hD0⟩ := hv
  have hx := B.exec
  have hb := B.bytes
  have hr := B.returns
  have hts := atoms_spec (ws := wsX6_water) B.pre
  have hown : s.vm.findClass RX6 = some m.cls := findClass_of_methodNamed B.named
  have hlocks := B.notSynchronized
  subst hsz
  have hK := hT.1
  have hD := hD0.self (sz := s.heap.size)
  generalize hAe : va_A [(h0, .inr (6, [.int (nI thr), .int (nI mi), .int (nI me), .int (nI dp), .int (bI up), .int (nI dn), .ref ma, .ref mx, .ref mh, .ref mg, .ref mc, .ref mo, .ref mr, .ref mf, .long wp, .long wl, .int (nI ru), .int (nI sm), .ref mk, .ref ml]))] s.heap.size = A at hD ⊢
  have hA : ∀ q : Nat, s.heap.size ≤ q → A q := fun q h => by rw [← hAe]; exact Or.inr h
  have hS : va_S A s.heap s.heap [] := va_S.rf
  obtain ⟨H, hHe⟩ : ∃ H : Heap, H = s.heap := ⟨_, rfl⟩
  have hS : va_S A s.heap H [] := by rw [hHe]; exact va_S.rf
  rw [← hHe] at hP
  suffices K0 : W p l e (headSpec wsX6_water ({ frames := 1, cells := 0, slots := 0, locals := 22 } : Room)).room s m args below meth c H [] 0 0 (MQ below (Ql9 D A [(h0, .inr (6, [.int (nI 0), .int (nI mi), .int (nI me), .int (nI dp), .int (bI up), .int (nI dn), .ref ma, .ref mx, .ref mh, .ref mg, .ref mc, .ref mo, .ref mr, .ref mf, .long wp, .long wl, .int (nI ru), .int (nI sm), .ref mk, .ref ml]))] (wp)) args s 0 0 A) (entryFrame m args 6) by rw [hHe] at K0; exact K0
  refine W.eq (g2 := entryFrame m ([.ref h0, .int (nI 0)] : List Value).toArray 6) (by rw [hargs]) ?_
  have hl := lv_entry ([.ref h0, .int (nI 0)]) (n := 6) (Nat.le_of_ble_eq_true rfl)
  rw [lg_entry_eq]
  generalize (lg_sl ([.ref h0, .int (nI 0)]) ++ List.replicate (6 - (lg_sl ([.ref h0, .int (nI 0)])).length) Slot.unset).toArray = ls at hl ⊢
  have hl : lv_has ls 6 [(0, .ref h0), (1, .int (nI 0))] := hl
  generalize ([] : List Loc) = locs at hS ⊢
  have hinX6 : ∀ w ∈ wsX60, w ∈ wsX6_water := by decide +kernel
  have hf69 := hts (.fieldLink RX6 69 "BrightbandModel" "put" "J") (by decide +kernel)
  refine lv_aload_n hx hb dX6_water_0 rfl (lv_at hl 0 rfl) ?_
  refine lv_iload_n hx hb dX6_water_1 rfl (lv_at hl 1 rfl) ?_
  refine lv_iconst (v := nI 0) hx hb dX6_water_2 (by decide) ?_
  refine lv_iconst (v := nI 3) hx hb dX6_water_3 (by decide) ?_
  refine cr_i (wc := []) (w1 := []) (ws2 := [(h0, .inr (6, [.int (nI thr), .int (nI mi), .int (nI me), .int (nI dp), .int (bI up), .int (nI dn), .ref ma, .ref mx, .ref mh, .ref mg, .ref mc, .ref mo, .ref mr, .ref mf, .long wp, .long wl, .int (nI ru), .int (nI sm), .ref mk, .ref ml]))]) hP hD hS hA [] rfl rfl rfl (va_runS (As := [.int (nI 0), .int (nI 0), .int (nI 3)]) (rest := [.ref h0]) ⟨hx, hb, hml, hown, hts⟩ (c_X6_in_T l D cI cJ cZ 0 0 3 (by omega) (by omega) (by omega) H.size) (va_cwS 3 hts gX6_water_X6_in rfl rfl rfl (by decide +kernel) ⟨Nat.le_of_ble_eq_true rfl, Nat.le_of_ble_eq_true rfl⟩) (pvS hT hP hD [] rfl rfl) rfl rfl hl.1 rfl (lv_room (Nat.le_of_ble_eq_true rfl)) dX6_water_4 ⟨Nat.zero_le _, Nat.zero_le _⟩) (fun H locs hP hD hS => ?_)
  refine cb_eq (tgt := 14) hx hb dX6_water_7 (by decide) (fun c_7 => absurd c_7 (by decide)) (fun c_7 => ?_)
  refine lv_iconst (v := nI 0) hx hb dX6_water_10 (by decide) ?_
  refine lv_goto (tgt := 15) hx hb dX6_water_11 (by decide) ?_
  refine cr_i (wc := [(h0, .inr (6, [.int (nI thr), .int (nI mi), .int (nI me), .int (nI dp), .int (bI up), .int (nI dn), .ref ma, .ref mx, .ref mh, .ref mg, .ref mc, .ref mo, .ref mr, .ref mf, .long wp, .long wl, .int (nI ru), .int (nI sm), .ref mk, .ref ml]))]) (w1 := [(h0, .inr (6, [.int (nI 0), .int (nI mi), .int (nI me), .int (nI dp), .int (bI up), .int (nI dn), .ref ma, .ref mx, .ref mh, .ref mg, .ref mc, .ref mo, .ref mr, .ref mf, .long wp, .long wl, .int (nI ru), .int (nI sm), .ref mk, .ref ml]))]) (ws2 := [(h0, .inr (6, [.int (nI 0), .int (nI mi), .int (nI me), .int (nI dp), .int (bI up), .int (nI dn), .ref ma, .ref mx, .ref mh, .ref mg, .ref mc, .ref mo, .ref mr, .ref mf, .long wp, .long wl, .int (nI ru), .int (nI sm), .ref mk, .ref ml]))]) hP hD hS hA [0] rfl rfl rfl (va_runV (As := [.int (nI 0)]) (rest := []) ⟨hx, hb, hml, hown, hts⟩ (c_X6_goesWell_ok l D cI cJ cZ h0 thr mi me dp up dn ma mx mh mg mc mo mr mf mk ml wp wl ru sm H.size) (cwV 1 hts gX6_water_X6_goesWell rfl rfl rfl (by decide +kernel) ⟨Nat.le_of_ble_eq_true rfl, Nat.le_of_ble_eq_true rfl⟩) (pvV hT hP hD [0] rfl rfl 0 rfl rfl) rfl rfl hl.1 rfl (lv_room (Nat.le_of_ble_eq_true rfl)) dX6_water_15 ⟨Nat.zero_le _, Nat.zero_le _⟩) (fun H locs hP hD hS => ?_)
  refine cb_ne (tgt := 23) hx hb dX6_water_18 (by decide) (fun c_18 => ?_) (fun c_18 => absurd c_18 (by decide))
  refine lv_iload_n hx hb dX6_water_23 rfl (lv_at hl 1 rfl) ?_
  refine c0_ne (tgt := 34) hx hb dX6_water_24 (by decide) (nT (by omega)) (fun c_24 => by omega) (fun c_24 => ?_)
  refine lv_aload_n hx hb dX6_water_27 rfl (lv_at hl 0 rfl) ?_
  refine va_get (D := D) (ci := 6) (v := .long wp) (C := RX6) (T := TX6) (N := 20) hx hb hts hinX6 hown hK hP 0 rfl rfl 14 (by decide) hf69 (fun _ h9 => h9) rfl dX6_water_28 ?_
  refine lv_goto (tgt := 47) hx hb dX6_water_31 (by decide) ?_
  refine lv_lstore_n (lv' := [(2, .long wp), (0, .ref h0), (1, .int (nI 0))]) hx hb dX6_water_47 rfl hl (by decide) rfl (fun ls hl => ?_)
  refine lv_iconst (v := nI 0) hx hb dX6_water_48 (by decide) ?_
  refine lv_istore (lv' := [(4, .int (nI 0)), (2, .long wp), (0, .ref h0), (1, .int (nI 0))]) hx hb dX6_water_49 hl (by decide) rfl (fun ls hl => ?_)
  refine lv_iload hx hb dX6_water_51 (lv_at hl 0 rfl) ?_
  refine lv_sipush (v := nI 600) hx hb dX6_water_53 (by decide) ?_
  refine ci_ge (tgt := 101) hx hb dX6_water_56 (by decide) (nT (by omega)) (nT (by omega)) (fun c_56 => by omega) (fun c_56 => ?_)
  refine lv_iload_n hx hb dX6_water_59 rfl (lv_at hl 3 rfl) ?_
  refine lv_iconst (v := nI 1) hx hb dX6_water_60 (by decide) ?_
  refine ci_ne (tgt := 101) hx hb dX6_water_61 (by decide) (nT (by omega)) (nT (by omega)) (fun c_61 => ?_) (fun c_61 => by omega)
  refine lv_iconst (v := nI 0) hx hb dX6_water_101 (by decide) ?_
  refine lv_istore (lv' := [(4, .int (nI 0)), (2, .long wp), (0, .ref h0), (1, .int (nI 0))]) hx hb dX6_water_102 hl (by decide) rfl (fun ls hl => ?_)
  refine lv_iload hx hb dX6_water_104 (lv_at hl 0 rfl) ?_
  refine lv_bipush (v := nI 20) hx hb dX6_water_106 (by decide) ?_
  refine ci_ge (tgt := 132) hx hb dX6_water_108 (by decide) (nT (by omega)) (nT (by omega)) (fun c_108 => by omega) (fun c_108 => ?_)
  refine lv_iload_n hx hb dX6_water_111 rfl (lv_at hl 3 rfl) ?_
  refine lv_iconst (v := nI 2) hx hb dX6_water_112 (by decide) ?_
  refine ci_ne (tgt := 132) hx hb dX6_water_113 (by decide) (nT (by omega)) (nT (by omega)) (fun c_113 => ?_) (fun c_113 => by omega)
  refine lv_lload_n hx hb dX6_water_132 rfl (lv_at hl 1 rfl) ?_
  exact fin_l hx hb hr hlocks hP hD hS (rfl) dX6_water_133
set_option maxHeartbeats 4000000 in
set_option maxRecDepth 100000 in
theorem c_X6_water_3 (l : Launch) (D : va_G) (cI cJ cZ : ClassId) (h0 : Nat) (thr : Nat) (mi : Nat) (me : Nat) (dp : Nat) (up : Bool) (dn : Nat) (ma : Nat) (mx : Nat) (mh : Nat) (mg : Nat) (mc : Nat) (mo : Nat) (mr : Nat) (mf : Nat) (mk : Nat) (ml : Nat) (wp : Int64) (wl : Int64) (ru : Nat) (sm : Nat) (sz : Nat) : Met l yX6_water wsX6_water ({ frames := 1, cells := 0, slots := 0, locals := 22 } : Room) (va_Pc [.ref h0, .int (nI 3)] (mPre D cI cJ cZ [(h0, .inr (6, [.int (nI thr), .int (nI mi), .int (nI me), .int (nI dp), .int (bI up), .int (nI dn), .ref ma, .ref mx, .ref mh, .ref mg, .ref mc, .ref mo, .ref mr, .ref mf, .long wp, .long wl, .int (nI ru), .int (nI sm), .ref mk, .ref ml]))] sz)) (Ql9 D (va_A [(h0, .inr (6, [.int (nI thr), .int (nI mi), .int (nI me), .int (nI dp), .int (bI up), .int (nI dn), .ref ma, .ref mx, .ref mh, .ref mg, .ref mc, .ref mo, .ref mr, .ref mf, .long wp, .long wl, .int (nI ru), .int (nI sm), .ref mk, .ref ml]))] sz) [(h0, .inr (6, [.int (nI 0), .int (nI mi), .int (nI me), .int (nI dp), .int (bI up), .int (nI dn), .ref ma, .ref mx, .ref mh, .ref mg, .ref mc, .ref mo, .ref mr, .ref mf, .long wp, .long wl, .int (nI ru), .int (nI sm), .ref mk, .ref ml]))] (wl)) 0 0 (va_A [(h0, .inr (6, [.int (nI thr), .int (nI mi), .int (nI me), .int (nI dp), .int (bI up), .int (nI dn), .ref ma, .ref mx, .ref mh, .ref mg, .ref mc, .ref mo, .ref mr, .ref mf, .long wp, .long wl, .int (nI ru), .int (nI sm), .ref mk, .ref ml]))] sz) := by
  refine Met.ofW (cc := cX6_water) (maxL := 6) (ret := (some .long)) (by decide) rfl ?_
  intro p e s m args below meth c s₁ B hml hv
  obtain ⟨hargs, hsz, hP, hT, hD0⟩ := hv
  have hx := B.exec
  have hb := B.bytes
  have hr := B.returns
  have hts := atoms_spec (ws := wsX6_water) B.pre
  have hown : s.vm.findClass RX6 = some m.cls := findClass_of_methodNamed B.named
  have hlocks := B.notSynchronized
  subst hsz
  have hK := hT.1
  have hD := hD0.self (sz := s.heap.size)
  generalize hAe : va_A [(h0, .inr (6, [.int (nI thr), .int (nI mi), .int (nI me), .int (nI dp), .int (bI up), .int (nI dn), .ref ma, .ref mx, .ref mh, .ref mg, .ref mc, .ref mo, .ref mr, .ref mf, .long wp, .long wl, .int (nI ru), .int (nI sm), .ref mk, .ref ml]))] s.heap.size = A at hD ⊢
  have hA : ∀ q : Nat, s.heap.size ≤ q → A q := fun q h => by rw [← hAe]; exact Or.inr h
  have hS : va_S A s.heap s.heap [] := va_S.rf
  obtain ⟨H, hHe⟩ : ∃ H : Heap, H = s.heap := ⟨_, rfl⟩
  have hS : va_S A s.heap H [] := by rw [hHe]; exact va_S.rf
  rw [← hHe] at hP
  suffices K0 : W p l e (headSpec wsX6_water ({ frames := 1, cells := 0, slots := 0, locals := 22 } : Room)).room s m args below meth c H [] 0 0 (MQ below (Ql9 D A [(h0, .inr (6, [.int (nI 0), .int (nI mi), .int (nI me), .int (nI dp), .int (bI up), .int (nI dn), .ref ma, .ref mx, .ref mh, .ref mg, .ref mc, .ref mo, .ref mr, .ref mf, .long wp, .long wl, .int (nI ru), .int (nI sm), .ref mk, .ref ml]))] (wl)) args s 0 0 A) (entryFrame m args 6) by rw [hHe] at K0; exact K0
  refine W.eq (g2 := entryFrame m ([.ref h0, .int (nI 3)] : List Value).toArray 6) (by rw [hargs]) ?_
  have hl := lv_entry ([.ref h0, .int (nI 3)]) (n := 6) (Nat.le_of_ble_eq_true rfl)
  rw [lg_entry_eq]
  generalize (lg_sl ([.ref h0, .int (nI 3)]) ++ List.replicate (6 - (lg_sl ([.ref h0, .int (nI 3)])).length) Slot.unset).toArray = ls at hl ⊢
  have hl : lv_has ls 6 [(0, .ref h0), (1, .int (nI 3))] := hl
  generalize ([] : List Loc) = locs at hS ⊢
  have hinX6 : ∀ w ∈ wsX60, w ∈ wsX6_water := by decide +kernel
  have hf92 := hts (.fieldLink RX6 92 "BrightbandModel" "left" "J") (by decide +kernel)
  refine lv_aload_n hx hb dX6_water_0 rfl (lv_at hl 0 rfl) ?_
  refine lv_iload_n hx hb dX6_water_1 rfl (lv_at hl 1 rfl) ?_
  refine lv_iconst (v := nI 0) hx hb dX6_water_2 (by decide) ?_
  refine lv_iconst (v := nI 3) hx hb dX6_water_3 (by decide) ?_
  refine cr_i (wc := []) (w1 := []) (ws2 := [(h0, .inr (6, [.int (nI thr), .int (nI mi), .int (nI me), .int (nI dp), .int (bI up), .int (nI dn), .ref ma, .ref mx, .ref mh, .ref mg, .ref mc, .ref mo, .ref mr, .ref mf, .long wp, .long wl, .int (nI ru), .int (nI sm), .ref mk, .ref ml]))]) hP hD hS hA [] rfl rfl rfl (va_runS (As := [.int (nI 3), .int (nI 0), .int (nI 3)]) (rest := [.ref h0]) ⟨hx, hb, hml, hown, hts⟩ (c_X6_in_T l D cI cJ cZ 3 0 3 (by omega) (by omega) (by omega) H.size) (va_cwS 3 hts gX6_water_X6_in rfl rfl rfl (by decide +kernel) ⟨Nat.le_of_ble_eq_true rfl, Nat.le_of_ble_eq_true rfl⟩) (pvS hT hP hD [] rfl rfl) rfl rfl hl.1 rfl (lv_room (Nat.le_of_ble_eq_true rfl)) dX6_water_4 ⟨Nat.zero_le _, Nat.zero_le _⟩) (fun H locs hP hD hS => ?_)
  refine cb_eq (tgt := 14) hx hb dX6_water_7 (by decide) (fun c_7 => absurd c_7 (by decide)) (fun c_7 => ?_)
  refine lv_iconst (v := nI 0) hx hb dX6_water_10 (by decide) ?_
  refine lv_goto (tgt := 15) hx hb dX6_water_11 (by decide) ?_
  refine cr_i (wc := [(h0, .inr (6, [.int (nI thr), .int (nI mi), .int (nI me), .int (nI dp), .int (bI up), .int (nI dn), .ref ma, .ref mx, .ref mh, .ref mg, .ref mc, .ref mo, .ref mr, .ref mf, .long wp, .long wl, .int (nI ru), .int (nI sm), .ref mk, .ref ml]))]) (w1 := [(h0, .inr (6, [.int (nI 0), .int (nI mi), .int (nI me), .int (nI dp), .int (bI up), .int (nI dn), .ref ma, .ref mx, .ref mh, .ref mg, .ref mc, .ref mo, .ref mr, .ref mf, .long wp, .long wl, .int (nI ru), .int (nI sm), .ref mk, .ref ml]))]) (ws2 := [(h0, .inr (6, [.int (nI 0), .int (nI mi), .int (nI me), .int (nI dp), .int (bI up), .int (nI dn), .ref ma, .ref mx, .ref mh, .ref mg, .ref mc, .ref mo, .ref mr, .ref mf, .long wp, .long wl, .int (nI ru), .int (nI sm), .ref mk, .ref ml]))]) hP hD hS hA [0] rfl rfl rfl (va_runV (As := [.int (nI 0)]) (rest := []) ⟨hx, hb, hml, hown, hts⟩ (c_X6_goesWell_ok l D cI cJ cZ h0 thr mi me dp up dn ma mx mh mg mc mo mr mf mk ml wp wl ru sm H.size) (cwV 1 hts gX6_water_X6_goesWell rfl rfl rfl (by decide +kernel) ⟨Nat.le_of_ble_eq_true rfl, Nat.le_of_ble_eq_true rfl⟩) (pvV hT hP hD [0] rfl rfl 0 rfl rfl) rfl rfl hl.1 rfl (lv_room (Nat.le_of_ble_eq_true rfl)) dX6_water_15 ⟨Nat.zero_le _, Nat.zero_le _⟩) (fun H locs hP hD hS => ?_)
  refine cb_ne (tgt := 23) hx hb dX6_water_18 (by decide) (fun c_18 => ?_) (fun c_18 => absurd c_18 (by decide))
  refine lv_iload_n hx hb dX6_water_23 rfl (lv_at hl 1 rfl) ?_
  refine c0_ne (tgt := 34) hx hb dX6_water_24 (by decide) (nT (by omega)) (fun c_24 => ?_) (fun c_24 => by omega)
  refine lv_iload_n hx hb dX6_water_34 rfl (lv_at hl 1 rfl) ?_
  refine lv_iconst (v := nI 3) hx hb dX6_water_35 (by decide) ?_
  refine ci_ne (tgt := 46) hx hb dX6_water_36 (by decide) (nT (by omega)) (nT (by omega)) (fun c_36 => by omega) (fun c_36 => ?_)
  refine lv_aload_n hx hb dX6_water_39 rfl (lv_at hl 0 rfl) ?_
  refine va_get (D := D) (ci := 6) (v := .long wl) (C := RX6) (T := TX6) (N := 20) hx hb hts hinX6 hown hK hP 0 rfl rfl 15 (by decide) hf92 (fun _ h9 => h9) rfl dX6_water_40 ?_
  refine lv_goto (tgt := 47) hx hb dX6_water_43 (by decide) ?_
  refine lv_lstore_n (lv' := [(2, .long wl), (0, .ref h0), (1, .int (nI 3))]) hx hb dX6_water_47 rfl hl (by decide) rfl (fun ls hl => ?_)
  refine lv_iconst (v := nI 0) hx hb dX6_water_48 (by decide) ?_
  refine lv_istore (lv' := [(4, .int (nI 0)), (2, .long wl), (0, .ref h0), (1, .int (nI 3))]) hx hb dX6_water_49 hl (by decide) rfl (fun ls hl => ?_)
  refine lv_iload hx hb dX6_water_51 (lv_at hl 0 rfl) ?_
  refine lv_sipush (v := nI 600) hx hb dX6_water_53 (by decide) ?_
  refine ci_ge (tgt := 101) hx hb dX6_water_56 (by decide) (nT (by omega)) (nT (by omega)) (fun c_56 => by omega) (fun c_56 => ?_)
  refine lv_iload_n hx hb dX6_water_59 rfl (lv_at hl 3 rfl) ?_
  refine lv_iconst (v := nI 1) hx hb dX6_water_60 (by decide) ?_
  refine ci_ne (tgt := 101) hx hb dX6_water_61 (by decide) (nT (by omega)) (nT (by omega)) (fun c_61 => ?_) (fun c_61 => by omega)
  refine lv_iconst (v := nI 0) hx hb dX6_water_101 (by decide) ?_
  refine lv_istore (lv' := [(4, .int (nI 0)), (2, .long wl), (0, .ref h0), (1, .int (nI 3))]) hx hb dX6_water_102 hl (by decide) rfl (fun ls hl => ?_)
  refine lv_iload hx hb dX6_water_104 (lv_at hl 0 rfl) ?_
  refine lv_bipush (v := nI 20) hx hb dX6_water_106 (by decide) ?_
  refine ci_ge (tgt := 132) hx hb dX6_water_108 (by decide) (nT (by omega)) (nT (by omega)) (fun c_108 => by omega) (fun c_108 => ?_)
  refine lv_iload_n hx hb dX6_water_111 rfl (lv_at hl 3 rfl) ?_
  refine lv_iconst (v := nI 2) hx hb dX6_water_112 (by decide) ?_
  refine ci_ne (tgt := 132) hx hb dX6_water_113 (by decide) (nT (by omega)) (nT (by omega)) (fun c_113 => ?_) (fun c_113 => by omega)
  refine lv_lload_n hx hb dX6_water_132 rfl (lv_at hl 1 rfl) ?_
  exact fin_l hx hb hr hlocks hP hD hS (rfl) dX6_water_133
set_option maxHeartbeats 4000000 in
set_option maxRecDepth 100000 in
theorem c_X6_water_1 (l : Launch) (D : va_G) (cI cJ cZ : ClassId) (h0 : Nat) (thr : Nat) (mi : Nat) (me : Nat) (dp : Nat) (up : Bool) (dn : Nat) (ma : Nat) (mx : Nat) (mh : Nat) (mg : Nat) (mc : Nat) (mo : Nat) (mr : Nat) (mf : Nat) (mk : Nat) (ml : Nat) (wp : Int64) (wl : Int64) (ru : Nat) (sm : Nat) (C : Nat → Nat) (sz : Nat) : Met l yX6_water wsX6_water ({ frames := 1, cells := 0, slots := 0, locals := 22 } : Room) (va_Pc [.ref h0, .int (nI 1)] (mPre D cI cJ cZ [(h0, .inr (6, [.int (nI thr), .int (nI mi), .int (nI me), .int (nI dp), .int (bI up), .int (nI dn), .ref ma, .ref mx, .ref mh, .ref mg, .ref mc, .ref mo, .ref mr, .ref mf, .long wp, .long wl, .int (nI ru), .int (nI sm), .ref mk, .ref ml])), (ma, .inl (cI, 600, .inl (nA C)))] sz)) (Ql9 D (va_A [(h0, .inr (6, [.int (nI thr), .int (nI mi), .int (nI me), .int (nI dp), .int (bI up), .int (nI dn), .ref ma, .ref mx, .ref mh, .ref mg, .ref mc, .ref mo, .ref mr, .ref mf, .long wp, .long wl, .int (nI ru), .int (nI sm), .ref mk, .ref ml])), (ma, .inl (cI, 600, .inl (nA C)))] sz) [(h0, .inr (6, [.int (nI 0), .int (nI mi), .int (nI me), .int (nI dp), .int (bI up), .int (nI dn), .ref ma, .ref mx, .ref mh, .ref mg, .ref mc, .ref mo, .ref mr, .ref mf, .long wp, .long wl, .int (nI ru), .int (nI sm), .ref mk, .ref ml])), (ma, .inl (cI, 600, .inl (nA C)))] (AWs C 600)) 0 0 (va_A [(h0, .inr (6, [.int (nI thr), .int (nI mi), .int (nI me), .int (nI dp), .int (bI up), .int (nI dn), .ref ma, .ref mx, .ref mh, .ref mg, .ref mc, .ref mo, .ref mr, .ref mf, .long wp, .long wl, .int (nI ru), .int (nI sm), .ref mk, .ref ml])), (ma, .inl (cI, 600, .inl (nA C)))] sz) := by
  refine Met.ofW (cc := cX6_water) (maxL := 6) (ret := (some .long)) (by decide) rfl ?_
  intro p e s m args below meth c s₁ B hml hv
  obtain ⟨hargs, hsz, hP, hT, hD0⟩ := hv
  have hx := B.exec
  have hb := B.bytes
  have hr := B.returns
  have hts := atoms_spec (ws := wsX6_water) B.pre
  have hown : s.vm.findClass RX6 = some m.cls := findClass_of_methodNamed B.named
  have hlocks := B.notSynchronized
  subst hsz
  have hK := hT.1
  have hD := hD0.self (sz := s.heap.size)
  generalize hAe : va_A [(h0, .inr (6, [.int (nI thr), .int (nI mi), .int (nI me), .int (nI dp), .int (bI up), .int (nI dn), .ref ma, .ref mx, .ref mh, .ref mg, .ref mc, .ref mo, .ref mr, .ref mf, .long wp, .long wl, .int (nI ru), .int (nI sm), .ref mk, .ref ml])), (ma, .inl (cI, 600, .inl (nA C)))] s.heap.size = A at hD ⊢
  have hA : ∀ q : Nat, s.heap.size ≤ q → A q := fun q h => by rw [← hAe]; exact Or.inr h
  have hS : va_S A s.heap s.heap [] := va_S.rf
  obtain ⟨H, hHe⟩ : ∃ H : Heap, H = s.heap := ⟨_, rfl⟩
  have hS : va_S A s.heap H [] := by rw [hHe]; exact va_S.rf
  rw [← hHe] at hP
  suffices K0 : W p l e (headSpec wsX6_water ({ frames := 1, cells := 0, slots := 0, locals := 22 } : Room)).room s m args below meth c H [] 0 0 (MQ below (Ql9 D A [(h0, .inr (6, [.int (nI 0), .int (nI mi), .int (nI me), .int (nI dp), .int (bI up), .int (nI dn), .ref ma, .ref mx, .ref mh, .ref mg, .ref mc, .ref mo, .ref mr, .ref mf, .long wp, .long wl, .int (nI ru), .int (nI sm), .ref mk, .ref ml])), (ma, .inl (cI, 600, .inl (nA C)))] (AWs C 600)) args s 0 0 A) (entryFrame m args 6) by rw [hHe] at K0; exact K0
  refine W.eq (g2 := entryFrame m ([.ref h0, .int (nI 1)] : List Value).toArray 6) (by rw [hargs]) ?_
  have hl := lv_entry ([.ref h0, .int (nI 1)]) (n := 6) (Nat.le_of_ble_eq_true rfl)
  rw [lg_entry_eq]
  generalize (lg_sl ([.ref h0, .int (nI 1)]) ++ List.replicate (6 - (lg_sl ([.ref h0, .int (nI 1)])).length) Slot.unset).toArray = ls at hl ⊢
  have hl : lv_has ls 6 [(0, .ref h0), (1, .int (nI 1))] := hl
  generalize ([] : List Loc) = locs at hS ⊢
  have hinX6 : ∀ w ∈ wsX60, w ∈ wsX6_water := by decide +kernel
  have hf13 := hts (.fieldLink RX6 13 "BrightbandModel" "air" "[I") (by decide +kernel)
  refine lv_aload_n hx hb dX6_water_0 rfl (lv_at hl 0 rfl) ?_
  refine lv_iload_n hx hb dX6_water_1 rfl (lv_at hl 1 rfl) ?_
  refine lv_iconst (v := nI 0) hx hb dX6_water_2 (by decide) ?_
  refine lv_iconst (v := nI 3) hx hb dX6_water_3 (by decide) ?_
  refine cr_i (wc := []) (w1 := []) (ws2 := [(h0, .inr (6, [.int (nI thr), .int (nI mi), .int (nI me), .int (nI dp), .int (bI up), .int (nI dn), .ref ma, .ref mx, .ref mh, .ref mg, .ref mc, .ref mo, .ref mr, .ref mf, .long wp, .long wl, .int (nI ru), .int (nI sm), .ref mk, .ref ml])), (ma, .inl (cI, 600, .inl (nA C)))]) hP hD hS hA [] rfl rfl rfl (va_runS (As := [.int (nI 1), .int (nI 0), .int (nI 3)]) (rest := [.ref h0]) ⟨hx, hb, hml, hown, hts⟩ (c_X6_in_T l D cI cJ cZ 1 0 3 (by omega) (by omega) (by omega) H.size) (va_cwS 3 hts gX6_water_X6_in rfl rfl rfl (by decide +kernel) ⟨Nat.le_of_ble_eq_true rfl, Nat.le_of_ble_eq_true rfl⟩) (pvS hT hP hD [] rfl rfl) rfl rfl hl.1 rfl (lv_room (Nat.le_of_ble_eq_true rfl)) dX6_water_4 ⟨Nat.zero_le _, Nat.zero_le _⟩) (fun H locs hP hD hS => ?_)
  refine cb_eq (tgt := 14) hx hb dX6_water_7 (by decide) (fun c_7 => absurd c_7 (by decide)) (fun c_7 => ?_)
  refine lv_iconst (v := nI 0) hx hb dX6_water_10 (by decide) ?_
  refine lv_goto (tgt := 15) hx hb dX6_water_11 (by decide) ?_
  refine cr_i (wc := [(h0, .inr (6, [.int (nI thr), .int (nI mi), .int (nI me), .int (nI dp), .int (bI up), .int (nI dn), .ref ma, .ref mx, .ref mh, .ref mg, .ref mc, .ref mo, .ref mr, .ref mf, .long wp, .long wl, .int (nI ru), .int (nI sm), .ref mk, .ref ml]))]) (w1 := [(h0, .inr (6, [.int (nI 0), .int (nI mi), .int (nI me), .int (nI dp), .int (bI up), .int (nI dn), .ref ma, .ref mx, .ref mh, .ref mg, .ref mc, .ref mo, .ref mr, .ref mf, .long wp, .long wl, .int (nI ru), .int (nI sm), .ref mk, .ref ml]))]) (ws2 := [(h0, .inr (6, [.int (nI 0), .int (nI mi), .int (nI me), .int (nI dp), .int (bI up), .int (nI dn), .ref ma, .ref mx, .ref mh, .ref mg, .ref mc, .ref mo, .ref mr, .ref mf, .long wp, .long wl, .int (nI ru), .int (nI sm), .ref mk, .ref ml])), (ma, .inl (cI, 600, .inl (nA C)))]) hP hD hS hA [0] rfl rfl rfl (va_runV (As := [.int (nI 0)]) (rest := []) ⟨hx, hb, hml, hown, hts⟩ (c_X6_goesWell_ok l D cI cJ cZ h0 thr mi me dp up dn ma mx mh mg mc mo mr mf mk ml wp wl ru sm H.size) (cwV 1 hts gX6_water_X6_goesWell rfl rfl rfl (by decide +kernel) ⟨Nat.le_of_ble_eq_true rfl, Nat.le_of_ble_eq_true rfl⟩) (pvV hT hP hD [0] rfl rfl 0 rfl rfl) rfl rfl hl.1 rfl (lv_room (Nat.le_of_ble_eq_true rfl)) dX6_water_15 ⟨Nat.zero_le _, Nat.zero_le _⟩) (fun H locs hP hD hS => ?_)
  refine cb_ne (tgt := 23) hx hb dX6_water_18 (by decide) (fun c_18 => ?_) (fun c_18 => absurd c_18 (by decide))
  refine lv_iload_n hx hb dX6_water_23 rfl (lv_at hl 1 rfl) ?_
  refine c0_ne (tgt := 34) hx hb dX6_water_24 (by decide) (nT (by omega)) (fun c_24 => ?_) (fun c_24 => by omega)
  refine lv_iload_n hx hb dX6_water_34 rfl (lv_at hl 1 rfl) ?_
  refine lv_iconst (v := nI 3) hx hb dX6_water_35 (by decide) ?_
  refine ci_ne (tgt := 46) hx hb dX6_water_36 (by decide) (nT (by omega)) (nT (by omega)) (fun c_36 => ?_) (fun c_36 => by omega)
  refine lv_lconst (v := 0) hx hb dX6_water_46 (by decide) ?_
  refine lv_lstore_n (lv' := [(2, .long 0), (0, .ref h0), (1, .int (nI 1))]) hx hb dX6_water_47 rfl hl (by decide) rfl (fun ls hl => ?_)
  refine lv_iconst (v := nI 0) hx hb dX6_water_48 (by decide) ?_
  refine lv_istore (lv' := [(4, .int (nI 0)), (2, .long 0), (0, .ref h0), (1, .int (nI 1))]) hx hb dX6_water_49 hl (by decide) rfl (fun ls hl => ?_)
  have lp51 : ∀ (n i : Nat), i + n = 600 → ∀ (H : Heap) (locs : List Loc), va_P D vwCl [(h0, .inr (6, [.int (nI 0), .int (nI mi), .int (nI me), .int (nI dp), .int (bI up), .int (nI dn), .ref ma, .ref mx, .ref mh, .ref mg, .ref mc, .ref mo, .ref mr, .ref mf, .long wp, .long wl, .int (nI ru), .int (nI sm), .ref mk, .ref ml])), (ma, .inl (cI, 600, .inl (nA C)))] H → va_D A [(h0, .inr (6, [.int (nI 0), .int (nI mi), .int (nI me), .int (nI dp), .int (bI up), .int (nI dn), .ref ma, .ref mx, .ref mh, .ref mg, .ref mc, .ref mo, .ref mr, .ref mf, .long wp, .long wl, .int (nI ru), .int (nI sm), .ref mk, .ref ml])), (ma, .inl (cI, 600, .inl (nA C)))] → va_S A s.heap H locs → ∀ (ls : Array Slot), lv_has ls 6 [(0, .ref h0), (1, .int (nI 1)), (2, .long (AWs C i)), (4, .int (nI i))] → W p l e (headSpec wsX6_water ({ frames := 1, cells := 0, slots := 0, locals := 22 } : Room)).room s m args below meth c H locs 0 0 (MQ below (Ql9 D A [(h0, .inr (6, [.int (nI 0), .int (nI mi), .int (nI me), .int (nI dp), .int (bI up), .int (nI dn), .ref ma, .ref mx, .ref mh, .ref mg, .ref mc, .ref mo, .ref mr, .ref mf, .long wp, .long wl, .int (nI ru), .int (nI sm), .ref mk, .ref ml])), (ma, .inl (cI, 600, .inl (nA C)))] (AWs C 600)) args s 0 0 A) (F0 m 51 ls []) := by
    intro n
    induction n with
    | zero =>
      intro i hcnti H locs hP hD hS ls hl
      obtain rfl : 600 = i := by omega
      refine lv_iload hx hb dX6_water_51 (lv_at hl 3 rfl) ?_
      refine lv_sipush (v := nI 600) hx hb dX6_water_53 (by decide) ?_
      refine ci_ge (tgt := 101) hx hb dX6_water_56 (by decide) (nT (by omega)) (nT (by omega)) (fun c_56 => ?_) (fun c_56 => by omega)
      refine lv_iconst (v := nI 0) hx hb dX6_water_101 (by decide) ?_
      refine lv_istore (lv' := [(4, .int (nI 0)), (0, .ref h0), (1, .int (nI 1)), (2, .long (AWs C 600))]) hx hb dX6_water_102 hl (by decide) rfl (fun ls hl => ?_)
      refine lv_iload hx hb dX6_water_104 (lv_at hl 0 rfl) ?_
      refine lv_bipush (v := nI 20) hx hb dX6_water_106 (by decide) ?_
      refine ci_ge (tgt := 132) hx hb dX6_water_108 (by decide) (nT (by omega)) (nT (by omega)) (fun c_108 => by omega) (fun c_108 => ?_)
      refine lv_iload_n hx hb dX6_water_111 rfl (lv_at hl 2 rfl) ?_
      refine lv_iconst (v := nI 2) hx hb dX6_water_112 (by decide) ?_
      refine ci_ne (tgt := 132) hx hb dX6_water_113 (by decide) (nT (by omega)) (nT (by omega)) (fun c_113 => ?_) (fun c_113 => by omega)
      refine lv_lload_n hx hb dX6_water_132 rfl (lv_at hl 3 rfl) ?_
      exact fin_l hx hb hr hlocks hP hD hS (rfl) dX6_water_133
    | succ n ih =>
      intro i hcnti H locs hP hD hS ls hl
      have hlti : i < 600 := by omega
      refine lv_iload hx hb dX6_water_51 (lv_at hl 3 rfl) ?_
      refine lv_sipush (v := nI 600) hx hb dX6_water_53 (by decide) ?_
      refine ci_ge (tgt := 101) hx hb dX6_water_56 (by decide) (nT (by omega)) (nT (by omega)) (fun c_56 => by omega) (fun c_56 => ?_)
      refine lv_iload_n hx hb dX6_water_59 rfl (lv_at hl 1 rfl) ?_
      refine lv_iconst (v := nI 1) hx hb dX6_water_60 (by decide) ?_
      refine ci_ne (tgt := 101) hx hb dX6_water_61 (by decide) (nT (by omega)) (nT (by omega)) (fun c_61 => by omega) (fun c_61 => ?_)
      refine lv_iload hx hb dX6_water_64 (lv_at hl 3 rfl) ?_
      refine lv_iconst (v := nI 3) hx hb dX6_water_66 (by decide) ?_
      refine lv_irem hx hb dX6_water_67 (by decide) ?_
      refine tp_i (pk_rem (by omega) (by omega) (by omega)) ?_
      refine lv_iconst (v := nI 1) hx hb dX6_water_68 (by decide) ?_
      refine lv_iadd hx hb dX6_water_69 ?_
      refine tp_i (nI_add _ _) ?_
      refine lv_istore (lv' := [(5, .int (nI ((i % 3) + 1))), (0, .ref h0), (1, .int (nI 1)), (2, .long (AWs C i)), (4, .int (nI i))]) hx hb dX6_water_70 hl (by decide) rfl (fun ls hl => ?_)
      refine lv_lload_n hx hb dX6_water_72 rfl (lv_at hl 3 rfl) ?_
      refine lv_aload_n hx hb dX6_water_73 rfl (lv_at hl 1 rfl) ?_
      refine va_get (D := D) (ci := 6) (v := .ref ma) (C := RX6) (T := TX6) (N := 20) hx hb hts hinX6 hown hK hP 0 rfl rfl 6 (by decide) hf13 (fun _ h9 => h9) rfl dX6_water_74 ?_
      refine lv_iload hx hb dX6_water_77 (lv_at hl 4 rfl) ?_
      refine ald_N hx hb hK hP 1 0 rfl rfl i rfl (by omega) (Nat.le_of_ble_eq_true rfl) dX6_water_79 ?_
      refine lv_i2l (v := (nI (C i)).toInt64) hx hb dX6_water_80 rfl ?_
      refine lv_iload hx hb dX6_water_81 (lv_at hl 0 rfl) ?_
      refine lv_i2l (v := (nI ((i % 3) + 1)).toInt64) hx hb dX6_water_83 rfl ?_
      refine lv_lmul hx hb dX6_water_84 ?_
      refine lv_iload hx hb dX6_water_85 (lv_at hl 0 rfl) ?_
      refine lv_i2l (v := (nI ((i % 3) + 1)).toInt64) hx hb dX6_water_87 rfl ?_
      refine lv_lmul hx hb dX6_water_88 ?_
      refine lv_iload hx hb dX6_water_89 (lv_at hl 0 rfl) ?_
      refine lv_i2l (v := (nI ((i % 3) + 1)).toInt64) hx hb dX6_water_91 rfl ?_
      refine lv_lmul hx hb dX6_water_92 ?_
      refine lv_ladd hx hb dX6_water_93 ?_
      refine lv_lstore_n (lv' := [(2, .long ((AWs C i) + (((((nI (C i)).toInt64) * ((nI ((i % 3) + 1)).toInt64)) * ((nI ((i % 3) + 1)).toInt64)) * ((nI ((i % 3) + 1)).toInt64)))), (5, .int (nI ((i % 3) + 1))), (0, .ref h0), (1, .int (nI 1)), (4, .int (nI i))]) hx hb dX6_water_94 rfl hl (by decide) rfl (fun ls hl => ?_)
      refine lv_iinc (v := nI (i + 1)) (lv' := [(4, .int (nI (i + 1))), (2, .long ((AWs C i) + (((((nI (C i)).toInt64) * ((nI ((i % 3) + 1)).toInt64)) * ((nI ((i % 3) + 1)).toInt64)) * ((nI ((i % 3) + 1)).toInt64)))), (5, .int (nI ((i % 3) + 1))), (0, .ref h0), (1, .int (nI 1))]) hx hb dX6_water_95 hl (k := 4) rfl (n_inc i) (by decide) rfl (fun ls hl => ?_)
      refine lv_goto (tgt := 51) hx hb dX6_water_98 (by decide) ?_
      have hle : ([(0, .ref h0), (1, .int (nI 1)), (2, .long (AWs C (i + 1))), (4, .int (nI (i + 1)))] : List (Nat × Value)) = [(0, .ref h0), (1, .int (nI 1)), (2, .long ((AWs C i) + (((((nI (C i)).toInt64) * ((nI ((i % 3) + 1)).toInt64)) * ((nI ((i % 3) + 1)).toInt64)) * ((nI ((i % 3) + 1)).toInt64)))), (4, .int (nI (i + 1)))] := (by rw [show AWs C (i + 1) = AWs C i + wtm (C i) (i % 3 + 1) from by rw [wtm_eq]; rfl]; rfl)
      exact ih (i + 1) (by omega) H locs hP hD hS ls (by rw [hle]; exact lv_sub hl [3, 4, 1, 0] rfl)
  have hle : ([(0, .ref h0), (1, .int (nI 1)), (2, .long (AWs C 0)), (4, .int (nI 0))] : List (Nat × Value)) = [(0, .ref h0), (1, .int (nI 1)), (2, .long 0), (4, .int (nI 0))] := rfl
  exact lp51 600 0 (by omega) H locs hP hD hS ls (by rw [hle]; exact lv_sub hl [2, 3, 1, 0] rfl)
set_option maxHeartbeats 4000000 in
set_option maxRecDepth 100000 in
theorem c_X6_water_2 (l : Launch) (D : va_G) (cI cJ cZ : ClassId) (h0 : Nat) (thr : Nat) (mi : Nat) (me : Nat) (dp : Nat) (up : Bool) (dn : Nat) (ma : Nat) (mx : Nat) (mh : Nat) (mg : Nat) (mc : Nat) (mo : Nat) (mr : Nat) (mf : Nat) (mk : Nat) (ml : Nat) (wp : Int64) (wl : Int64) (ru : Nat) (sm : Nat) (GR : Nat → Int64) (sz : Nat) : Met l yX6_water wsX6_water ({ frames := 1, cells := 0, slots := 0, locals := 22 } : Room) (va_Pc [.ref h0, .int (nI 2)] (mPre D cI cJ cZ [(h0, .inr (6, [.int (nI thr), .int (nI mi), .int (nI me), .int (nI dp), .int (bI up), .int (nI dn), .ref ma, .ref mx, .ref mh, .ref mg, .ref mc, .ref mo, .ref mr, .ref mf, .long wp, .long wl, .int (nI ru), .int (nI sm), .ref mk, .ref ml])), (mr, .inl (cJ, 20, .inr (.inl GR)))] sz)) (Ql9 D (va_A [(h0, .inr (6, [.int (nI thr), .int (nI mi), .int (nI me), .int (nI dp), .int (bI up), .int (nI dn), .ref ma, .ref mx, .ref mh, .ref mg, .ref mc, .ref mo, .ref mr, .ref mf, .long wp, .long wl, .int (nI ru), .int (nI sm), .ref mk, .ref ml])), (mr, .inl (cJ, 20, .inr (.inl GR)))] sz) [(h0, .inr (6, [.int (nI 0), .int (nI mi), .int (nI me), .int (nI dp), .int (bI up), .int (nI dn), .ref ma, .ref mx, .ref mh, .ref mg, .ref mc, .ref mo, .ref mr, .ref mf, .long wp, .long wl, .int (nI ru), .int (nI sm), .ref mk, .ref ml])), (mr, .inl (cJ, 20, .inr (.inl GR)))] (gS GR 20)) 0 0 (va_A [(h0, .inr (6, [.int (nI thr), .int (nI mi), .int (nI me), .int (nI dp), .int (bI up), .int (nI dn), .ref ma, .ref mx, .ref mh, .ref mg, .ref mc, .ref mo, .ref mr, .ref mf, .long wp, .long wl, .int (nI ru), .int (nI sm), .ref mk, .ref ml])), (mr, .inl (cJ, 20, .inr (.inl GR)))] sz) := by
  refine Met.ofW (cc := cX6_water) (maxL := 6) (ret := (some .long)) (by decide) rfl ?_
  intro p e s m args below meth c s₁ B hml hv
  obtain ⟨hargs, hsz, hP, hT, hD0⟩ := hv
  have hx := B.exec
  have hb := B.bytes
  have hr := B.returns
  have hts := atoms_spec (ws := wsX6_water) B.pre
  have hown : s.vm.findClass RX6 = some m.cls := findClass_of_methodNamed B.named
  have hlocks := B.notSynchronized
  subst hsz
  have hK := hT.1
  have hD := hD0.self (sz := s.heap.size)
  generalize hAe : va_A [(h0, .inr (6, [.int (nI thr), .int (nI mi), .int (nI me), .int (nI dp), .int (bI up), .int (nI dn), .ref ma, .ref mx, .ref mh, .ref mg, .ref mc, .ref mo, .ref mr, .ref mf, .long wp, .long wl, .int (nI ru), .int (nI sm), .ref mk, .ref ml])), (mr, .inl (cJ, 20, .inr (.inl GR)))] s.heap.size = A at hD ⊢
  have hA : ∀ q : Nat, s.heap.size ≤ q → A q := fun q h => by rw [← hAe]; exact Or.inr h
  have hS : va_S A s.heap s.heap [] := va_S.rf
  obtain ⟨H, hHe⟩ : ∃ H : Heap, H = s.heap := ⟨_, rfl⟩
  have hS : va_S A s.heap H [] := by rw [hHe]; exact va_S.rf
  rw [← hHe] at hP
  suffices K0 : W p l e (headSpec wsX6_water ({ frames := 1, cells := 0, slots := 0, locals := 22 } : Room)).room s m args below meth c H [] 0 0 (MQ below (Ql9 D A [(h0, .inr (6, [.int (nI 0), .int (nI mi), .int (nI me), .int (nI dp), .int (bI up), .int (nI dn), .ref ma, .ref mx, .ref mh, .ref mg, .ref mc, .ref mo, .ref mr, .ref mf, .long wp, .long wl, .int (nI ru), .int (nI sm), .ref mk, .ref ml])), (mr, .inl (cJ, 20, .inr (.inl GR)))] (gS GR 20)) args s 0 0 A) (entryFrame m args 6) by rw [hHe] at K0; exact K0
  refine W.eq (g2 := entryFrame m ([.ref h0, .int (nI 2)] : List Value).toArray 6) (by rw [hargs]) ?_
  have hl := lv_entry ([.ref h0, .int (nI 2)]) (n := 6) (Nat.le_of_ble_eq_true rfl)
  rw [lg_entry_eq]
  generalize (lg_sl ([.ref h0, .int (nI 2)]) ++ List.replicate (6 - (lg_sl ([.ref h0, .int (nI 2)])).length) Slot.unset).toArray = ls at hl ⊢
  have hl : lv_has ls 6 [(0, .ref h0), (1, .int (nI 2))] := hl
  generalize ([] : List Loc) = locs at hS ⊢
  have hinX6 : ∀ w ∈ wsX60, w ∈ wsX6_water := by decide +kernel
  have hf34 := hts (.fieldLink RX6 34 "BrightbandModel" "ground" "[J") (by decide +kernel)
  refine lv_aload_n hx hb dX6_water_0 rfl (lv_at hl 0 rfl) ?_
  refine lv_iload_n hx hb dX6_water_1 rfl (lv_at hl 1 rfl) ?_
  refine lv_iconst (v := nI 0) hx hb dX6_water_2 (by decide) ?_
  refine lv_iconst (v := nI 3) hx hb dX6_water_3 (by decide) ?_
  refine cr_i (wc := []) (w1 := []) (ws2 := [(h0, .inr (6, [.int (nI thr), .int (nI mi), .int (nI me), .int (nI dp), .int (bI up), .int (nI dn), .ref ma, .ref mx, .ref mh, .ref mg, .ref mc, .ref mo, .ref mr, .ref mf, .long wp, .long wl, .int (nI ru), .int (nI sm), .ref mk, .ref ml])), (mr, .inl (cJ, 20, .inr (.inl GR)))]) hP hD hS hA [] rfl rfl rfl (va_runS (As := [.int (nI 2), .int (nI 0), .int (nI 3)]) (rest := [.ref h0]) ⟨hx, hb, hml, hown, hts⟩ (c_X6_in_T l D cI cJ cZ 2 0 3 (by omega) (by omega) (by omega) H.size) (va_cwS 3 hts gX6_water_X6_in rfl rfl rfl (by decide +kernel) ⟨Nat.le_of_ble_eq_true rfl, Nat.le_of_ble_eq_true rfl⟩) (pvS hT hP hD [] rfl rfl) rfl rfl hl.1 rfl (lv_room (Nat.le_of_ble_eq_true rfl)) dX6_water_4 ⟨Nat.zero_le _, Nat.zero_le _⟩) (fun H locs hP hD hS => ?_)
  refine cb_eq (tgt := 14) hx hb dX6_water_7 (by decide) (fun c_7 => absurd c_7 (by decide)) (fun c_7 => ?_)
  refine lv_iconst (v := nI 0) hx hb dX6_water_10 (by decide) ?_
  refine lv_goto (tgt := 15) hx hb dX6_water_11 (by decide) ?_
  refine cr_i (wc := [(h0, .inr (6, [.int (nI thr), .int (nI mi), .int (nI me), .int (nI dp), .int (bI up), .int (nI dn), .ref ma, .ref mx, .ref mh, .ref mg, .ref mc, .ref mo, .ref mr, .ref mf, .long wp, .long wl, .int (nI ru), .int (nI sm), .ref mk, .ref ml]))]) (w1 := [(h0, .inr (6, [.int (nI 0), .int (nI mi), .int (nI me), .int (nI dp), .int (bI up), .int (nI dn), .ref ma, .ref mx, .ref mh, .ref mg, .ref mc, .ref mo, .ref mr, .ref mf, .long wp, .long wl, .int (nI ru), .int (nI sm), .ref mk, .ref ml]))]) (ws2 := [(h0, .inr (6, [.int (nI 0), .int (nI mi), .int (nI me), .int (nI dp), .int (bI up), .int (nI dn), .ref ma, .ref mx, .ref mh, .ref mg, .ref mc, .ref mo, .ref mr, .ref mf, .long wp, .long wl, .int (nI ru), .int (nI sm), .ref mk, .ref ml])), (mr, .inl (cJ, 20, .inr (.inl GR)))]) hP hD hS hA [0] rfl rfl rfl (va_runV (As := [.int (nI 0)]) (rest := []) ⟨hx, hb, hml, hown, hts⟩ (c_X6_goesWell_ok l D cI cJ cZ h0 thr mi me dp up dn ma mx mh mg mc mo mr mf mk ml wp wl ru sm H.size) (cwV 1 hts gX6_water_X6_goesWell rfl rfl rfl (by decide +kernel) ⟨Nat.le_of_ble_eq_true rfl, Nat.le_of_ble_eq_true rfl⟩) (pvV hT hP hD [0] rfl rfl 0 rfl rfl) rfl rfl hl.1 rfl (lv_room (Nat.le_of_ble_eq_true rfl)) dX6_water_15 ⟨Nat.zero_le _, Nat.zero_le _⟩) (fun H locs hP hD hS => ?_)
  refine cb_ne (tgt := 23) hx hb dX6_water_18 (by decide) (fun c_18 => ?_) (fun c_18 => absurd c_18 (by decide))
  refine lv_iload_n hx hb dX6_water_23 rfl (lv_at hl 1 rfl) ?_
  refine c0_ne (tgt := 34) hx hb dX6_water_24 (by decide) (nT (by omega)) (fun c_24 => ?_) (fun c_24 => by omega)
  refine lv_iload_n hx hb dX6_water_34 rfl (lv_at hl 1 rfl) ?_
  refine lv_iconst (v := nI 3) hx hb dX6_water_35 (by decide) ?_
  refine ci_ne (tgt := 46) hx hb dX6_water_36 (by decide) (nT (by omega)) (nT (by omega)) (fun c_36 => ?_) (fun c_36 => by omega)
  refine lv_lconst (v := 0) hx hb dX6_water_46 (by decide) ?_
  refine lv_lstore_n (lv' := [(2, .long 0), (0, .ref h0), (1, .int (nI 2))]) hx hb dX6_water_47 rfl hl (by decide) rfl (fun ls hl => ?_)
  refine lv_iconst (v := nI 0) hx hb dX6_water_48 (by decide) ?_
  refine lv_istore (lv' := [(4, .int (nI 0)), (2, .long 0), (0, .ref h0), (1, .int (nI 2))]) hx hb dX6_water_49 hl (by decide) rfl (fun ls hl => ?_)
  refine lv_iload hx hb dX6_water_51 (lv_at hl 0 rfl) ?_
  refine lv_sipush (v := nI 600) hx hb dX6_water_53 (by decide) ?_
  refine ci_ge (tgt := 101) hx hb dX6_water_56 (by decide) (nT (by omega)) (nT (by omega)) (fun c_56 => by omega) (fun c_56 => ?_)
  refine lv_iload_n hx hb dX6_water_59 rfl (lv_at hl 3 rfl) ?_
  refine lv_iconst (v := nI 1) hx hb dX6_water_60 (by decide) ?_
  refine ci_ne (tgt := 101) hx hb dX6_water_61 (by decide) (nT (by omega)) (nT (by omega)) (fun c_61 => ?_) (fun c_61 => by omega)
  refine lv_iconst (v := nI 0) hx hb dX6_water_101 (by decide) ?_
  refine lv_istore (lv' := [(4, .int (nI 0)), (2, .long 0), (0, .ref h0), (1, .int (nI 2))]) hx hb dX6_water_102 hl (by decide) rfl (fun ls hl => ?_)
  have lp104 : ∀ (n i : Nat), i + n = 20 → ∀ (H : Heap) (locs : List Loc), va_P D vwCl [(h0, .inr (6, [.int (nI 0), .int (nI mi), .int (nI me), .int (nI dp), .int (bI up), .int (nI dn), .ref ma, .ref mx, .ref mh, .ref mg, .ref mc, .ref mo, .ref mr, .ref mf, .long wp, .long wl, .int (nI ru), .int (nI sm), .ref mk, .ref ml])), (mr, .inl (cJ, 20, .inr (.inl GR)))] H → va_D A [(h0, .inr (6, [.int (nI 0), .int (nI mi), .int (nI me), .int (nI dp), .int (bI up), .int (nI dn), .ref ma, .ref mx, .ref mh, .ref mg, .ref mc, .ref mo, .ref mr, .ref mf, .long wp, .long wl, .int (nI ru), .int (nI sm), .ref mk, .ref ml])), (mr, .inl (cJ, 20, .inr (.inl GR)))] → va_S A s.heap H locs → ∀ (ls : Array Slot), lv_has ls 6 [(0, .ref h0), (1, .int (nI 2)), (2, .long (gS GR i)), (4, .int (nI i))] → W p l e (headSpec wsX6_water ({ frames := 1, cells := 0, slots := 0, locals := 22 } : Room)).room s m args below meth c H locs 0 0 (MQ below (Ql9 D A [(h0, .inr (6, [.int (nI 0), .int (nI mi), .int (nI me), .int (nI dp), .int (bI up), .int (nI dn), .ref ma, .ref mx, .ref mh, .ref mg, .ref mc, .ref mo, .ref mr, .ref mf, .long wp, .long wl, .int (nI ru), .int (nI sm), .ref mk, .ref ml])), (mr, .inl (cJ, 20, .inr (.inl GR)))] (gS GR 20)) args s 0 0 A) (F0 m 104 ls []) := by
    intro n
    induction n with
    | zero =>
      intro i hcnti H locs hP hD hS ls hl
      obtain rfl : 20 = i := by omega
      refine lv_iload hx hb dX6_water_104 (lv_at hl 3 rfl) ?_
      refine lv_bipush (v := nI 20) hx hb dX6_water_106 (by decide) ?_
      refine ci_ge (tgt := 132) hx hb dX6_water_108 (by decide) (nT (by omega)) (nT (by omega)) (fun c_108 => ?_) (fun c_108 => by omega)
      refine lv_lload_n hx hb dX6_water_132 rfl (lv_at hl 2 rfl) ?_
      exact fin_l hx hb hr hlocks hP hD hS (rfl) dX6_water_133
    | succ n ih =>
      intro i hcnti H locs hP hD hS ls hl
      have hlti : i < 20 := by omega
      refine lv_iload hx hb dX6_water_104 (lv_at hl 3 rfl) ?_
      refine lv_bipush (v := nI 20) hx hb dX6_water_106 (by decide) ?_
      refine ci_ge (tgt := 132) hx hb dX6_water_108 (by decide) (nT (by omega)) (nT (by omega)) (fun c_108 => by omega) (fun c_108 => ?_)
      refine lv_iload_n hx hb dX6_water_111 rfl (lv_at hl 1 rfl) ?_
      refine lv_iconst (v := nI 2) hx hb dX6_water_112 (by decide) ?_
      refine ci_ne (tgt := 132) hx hb dX6_water_113 (by decide) (nT (by omega)) (nT (by omega)) (fun c_113 => by omega) (fun c_113 => ?_)
      refine lv_lload_n hx hb dX6_water_116 rfl (lv_at hl 2 rfl) ?_
      refine lv_aload_n hx hb dX6_water_117 rfl (lv_at hl 0 rfl) ?_
      refine va_get (D := D) (ci := 6) (v := .ref mr) (C := RX6) (T := TX6) (N := 20) hx hb hts hinX6 hown hK hP 0 rfl rfl 12 (by decide) hf34 (fun _ h9 => h9) rfl dX6_water_118 ?_
      refine lv_iload hx hb dX6_water_121 (lv_at hl 3 rfl) ?_
      refine ald_L hx hb hK hP 1 1 rfl rfl i rfl (by omega) (Nat.le_of_ble_eq_true rfl) dX6_water_123 ?_
      refine lv_ladd hx hb dX6_water_124 ?_
      refine lv_lstore_n (lv' := [(2, .long ((gS GR i) + (GR i))), (0, .ref h0), (1, .int (nI 2)), (4, .int (nI i))]) hx hb dX6_water_125 rfl hl (by decide) rfl (fun ls hl => ?_)
      refine lv_iinc (v := nI (i + 1)) (lv' := [(4, .int (nI (i + 1))), (2, .long ((gS GR i) + (GR i))), (0, .ref h0), (1, .int (nI 2))]) hx hb dX6_water_126 hl (k := 3) rfl (n_inc i) (by decide) rfl (fun ls hl => ?_)
      refine lv_goto (tgt := 104) hx hb dX6_water_129 (by decide) ?_
      have hle : ([(0, .ref h0), (1, .int (nI 2)), (2, .long (gS GR (i + 1))), (4, .int (nI (i + 1)))] : List (Nat × Value)) = [(0, .ref h0), (1, .int (nI 2)), (2, .long ((gS GR i) + (GR i))), (4, .int (nI (i + 1)))] := rfl
      exact ih (i + 1) (by omega) H locs hP hD hS ls (by rw [hle]; exact lv_sub hl [2, 3, 1, 0] rfl)
  have hle : ([(0, .ref h0), (1, .int (nI 2)), (2, .long (gS GR 0)), (4, .int (nI 0))] : List (Nat × Value)) = [(0, .ref h0), (1, .int (nI 2)), (2, .long 0), (4, .int (nI 0))] := rfl
  exact lp104 20 0 (by omega) H locs hP hD hS ls (by rw [hle]; exact lv_sub hl [2, 3, 1, 0] rfl)
