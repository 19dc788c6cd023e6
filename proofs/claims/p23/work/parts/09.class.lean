/-! ===== the class itself, where nothing is refused ===== -/
section MYROWS2
variable {p : Program} {l : Launch} {e : Env} {R : Room} {s : State} {m : MethodId} {args : Array Value} {below : List Frame} {meth : Method} {c : Code} {H : Heap} {locs : List Loc} {cells slots : Nat} {Q : State → Prop} {pc : Nat} {ls : Array Slot} {rest : List Value} {cc : ByteArray}
theorem bI_inj {a b : Bool} : bI a = bI b ↔ a = b := by cases a <;> cases b <;> simp [bI]
theorem cbb_eq (hexec : p.tables.exec = Jvm.exec) (hb : c.code = cc) {x y : Bool} {off : Int} {tgt : Nat} (hdg : decode cc pc = .ok (.if_icmp .eq off, 3)) (ht : (pc : Int) + off = (tgt : Int)) (kt : x = y → W p l e R s m args below meth c H locs cells slots Q (F0 m tgt ls rest)) (kf : ¬ x = y → W p l e R s m args below meth c H locs cells slots Q (F0 m (pc + 3) ls rest)) : W p l e R s m args below meth c H locs cells slots Q (F0 m pc ls (.int (bI y) :: .int (bI x) :: rest)) :=
  lv_icmp_eq hexec hb hdg ht (fun h => kt (bI_inj.mp h)) (fun h => kf (fun z => h (bI_inj.mpr z)))
end MYROWS2
def rch (HI : Nat → Nat) (ev : Nat) : Nat → Nat → Nat | 0, i => i | n + 1, i => if bmN i ev < HI i then i else rch HI ev n (i + 1)
theorem rch_st {HI : Nat → Nat} {ev i : Nat} (h : i < 20) : rch HI ev (20 - i) i = if bmN i ev < HI i then i else rch HI ev (20 - (i + 1)) (i + 1) := by
  have e : 20 - i = (20 - (i + 1)) + 1 := by omega
  rw [e]
  rfl
theorem rch_le (HI : Nat → Nat) (ev : Nat) : ∀ n i, rch HI ev n i ≤ i + n
  | 0, i => Nat.le_refl _
  | n + 1, i => by
    show (if bmN i ev < HI i then i else rch HI ev n (i + 1)) ≤ i + (n + 1)
    split
    · omega
    · have := rch_le HI ev n (i + 1)
      omega
def plE (C : Nat → Nat) (ki la : Nat) : Int64 := if la < 10 then pe9 (fun zz => C (30 * ki + 3 * la + zz)) 3 else pe9 (fun _ => 0) 3
def eb9 (C : Nat → Nat) (me ki ev : Nat) : Int64 := if phN (bmN ki ev) me = 0 then plE C ki (bmN ki ev) / 4 else if phN (bmN ki ev) me = 1 then plE C ki (bmN ki ev) * 3 else plE C ki (bmN ki ev)
def rnS (EC : Nat → Int64) (ru : Nat → Nat) (ki : Nat) : Nat → Int64 | 0 => 0 | i + 1 => rnS EC ru ki i + EC (20 * i + ki) / (nI (ru i)).toInt64
theorem nl_ne {n : Nat} (h1 : 1 ≤ n) (h2 : n < 2147483648) : ¬ (nI n).toInt64 = 0 := by
  intro h
  have h3 := congrArg Int64.toInt h
  rw [Int32.toInt_toInt64, nT h2] at h3
  have h4 : (0 : Int64).toInt = 0 := by decide
  omega
def gS (GR : Nat → Int64) : Nat → Int64 | 0 => 0 | i + 1 => gS GR i + GR i
def stp (dp : Nat) (up : Bool) (nu : Nat) : Int := if dp = 0 ∨ nu % dp ≠ 0 then 0 else if up = true then 1 else -1
theorem stp_cases (dp : Nat) (up : Bool) (nu : Nat) : stp dp up nu = 0 ∨ stp dp up nu = 1 ∨ stp dp up nu = -1 := by
  unfold stp
  repeat' split
  · exact Or.inl rfl
  · exact Or.inr (Or.inl rfl)
  · exact Or.inr (Or.inr rfl)
def drM (st : Int) (C : Nat → Nat) : Nat → Nat := if st = 1 then mU C 20 else if st = -1 then mW C 20 else C
def drW (st : Int) (C : Nat → Nat) (wl : Int64) : Int64 := if st = 1 then wl + mUl C 20 else if st = -1 then wl + mWl C 20 else wl
def GC (me : Nat) (C : Nat → Nat) : Nat → (Nat → Nat) | 0 => C | k + 1 => FC me (GC me C k) (30 * k) 30
def GLd (me : Nat) (C : Nat → Nat) (k : Nat) : Int64 := FL me (GC me C k) (30 * k) 30
def GG (me : Nat) (C : Nat → Nat) (GR : Nat → Int64) : Nat → (Nat → Int64) | 0 => GR | k + 1 => uN (GG me C GR k) k (GG me C GR k k + GLd me C k)
def GO (me : Nat) (C : Nat → Nat) (UP CL : Nat → Bool) (CO : Nat → Int64) : Nat → (Nat → Int64) | 0 => CO | k + 1 => coF UP CL (GO me C UP CL CO k) k (GLd me C k)
abbrev MV : Type := (Nat → Nat) × (Nat → Int64) × (Nat → Int64) × Int64 × (Nat → Nat) × (Nat → Int)
def po (me dp : Nat) (up : Bool) (UP CL : Nat → Bool) (nu : Nat) (v : MV) : MV :=
  (drM (stp dp up nu) (GC me v.1 20), GG me v.1 v.2.1 20, GO me v.1 UP CL v.2.2.1 20, drW (stp dp up nu) (GC me v.1 20) v.2.2.2.1, uN v.2.2.2.2.1 nu me, uN v.2.2.2.2.2 nu (stp dp up nu))
def pv (me dp : Nat) (up : Bool) (UP CL : Nat → Bool) (mi : Nat) (v : MV) : Nat → MV | 0 => v | i + 1 => po me dp up UP CL (mi + i + 1) (pv me dp up UP CL mi v i)
/-- a drop's place, coded: below 600 the air, 600 + k on the ground of k, 620 has left -/
def mvp (me : Nat) (st : Int) (x : Nat) : Nat :=
  if x < 600 then
    (if x / 3 % 10 < faN (x / 3 % 10) (x % 3 + 1) me then 600 + x / 30
     else if ((x / 30 : Nat) : Int) + st < 0 ∨ 20 ≤ ((x / 30 : Nat) : Int) + st then 620
     else 30 * (((x / 30 : Nat) : Int) + st).toNat + (x % 30 - 3 * faN (x / 3 % 10) (x % 3 + 1) me))
  else x
def trk (ML : Nat → Nat) (SP : Nat → Int) (x0 pm : Nat) : Nat → Nat | 0 => x0 | j + 1 => mvp (ML (pm + 1 + j)) (SP (pm + 1 + j)) (trk ML SP x0 pm j)
def ldZ (x : Nat) : Int := if 600 ≤ x ∧ x < 620 then (x : Int) - 600 else -1
theorem mvp_out {me : Nat} {st : Int} {x : Nat} (h : 600 ≤ x) : mvp me st x = x := if_neg (by omega)
theorem trk_out {ML : Nat → Nat} {SP : Nat → Int} {x0 pm j : Nat} (h : 600 ≤ trk ML SP x0 pm j) : ∀ n, trk ML SP x0 pm (j + n) = trk ML SP x0 pm j
  | 0 => rfl
  | n + 1 => by
    show mvp _ _ (trk ML SP x0 pm (j + n)) = _
    rw [trk_out h n, mvp_out h]
def xput (PK PL PS : Nat → Nat) (i : Nat) : Nat := 30 * PK i + 3 * PL i + (PS i - 1)
def psn (PK PL PS PM ML : Nat → Nat) (SP : Nat → Int) (mi i : Nat) : Nat := trk ML SP (xput PK PL PS i) (PM i) (mi - PM i)
def GAn (PK PL PS PN PM ML : Nat → Nat) (SP : Nat → Int) (mi ki : Nat) : Nat → Int64 | 0 => 0 | i + 1 => if psn PK PL PS PM ML SP mi i = 600 + ki then GAn PK PL PS PN PM ML SP mi ki i + wtr (PS i) (PN i) else GAn PK PL PS PN PM ML SP mi ki i
def moL (d : Int → Int64) : Nat → Int64 | 0 => d 0 | f + 1 => if d ((f : Int) + 1) < (if d (-((f : Int) + 1)) < moL d f then d (-((f : Int) + 1)) else moL d f) then d ((f : Int) + 1) else (if d (-((f : Int) + 1)) < moL d f then d (-((f : Int) + 1)) else moL d f)
def moB (d : Int → Int64) : Nat → Int | 0 => 0 | f + 1 => if d ((f : Int) + 1) < (if d (-((f : Int) + 1)) < moL d f then d (-((f : Int) + 1)) else moL d f) then (f : Int) + 1 else if d (-((f : Int) + 1)) < moL d f then -((f : Int) + 1) else moB d f
def scE (C : Nat → Nat) (me ev : Nat) (EC : Nat → Int64) (sm : Nat) : Nat → (Nat → Int64) | 0 => EC | i + 1 => uN (scE C me ev EC sm i) (20 * sm + i) (eb9 C me i ev)
set_option maxHeartbeats 4000000 in
set_option maxRecDepth 100000 in
theorem c_X5_requireKilometre (l : Launch) (D : va_G) (cI cJ cZ : ClassId) (xx : Nat) (hxx : xx < 20) (sz : Nat) : Met l yX5_requireKilometre wsX5_requireKilometre ({ frames := 0, cells := 0, slots := 0, locals := 0 } : Room) (va_Pc [.int (nI xx)] (mPre D cI cJ cZ [] sz)) (Qv9 D (va_A [] sz) []) 0 0 (va_A [] sz) := by
  refine Met.ofW (cc := cX5_requireKilometre) (maxL := 1) (ret := none) (by decide) rfl ?_
  intro p e s m args below meth c s₁ B hml hv
  obtain ⟨hargs, hsz, hP, hT, hD0⟩ := hv
  have hx := B.exec
  have hb := B.bytes
  have hr := B.returns
  have hts := atoms_spec (ws := wsX5_requireKilometre) B.pre
  have hown : s.vm.findClass RX5 = some m.cls := findClass_of_methodNamed B.named
  have hlocks := B.notSynchronized
  subst hsz
  have hK := hT.1
  have hD := hD0.self (sz := s.heap.size)
  generalize hAe : va_A [] s.heap.size = A at hD ⊢
  have hA : ∀ q : Nat, s.heap.size ≤ q → A q := fun q h => by rw [← hAe]; exact Or.inr h
  have hS : va_S A s.heap s.heap [] := va_S.rf
  obtain ⟨H, hHe⟩ : ∃ H : Heap, H = s.heap := ⟨_, rfl⟩
  have hS : va_S A s.heap H [] := by rw [hHe]; exact va_S.rf
  rw [← hHe] at hP
  suffices K0 : W p l e (headSpec wsX5_requireKilometre ({ frames := 0, cells := 0, slots := 0, locals := 0 } : Room)).room s m args below meth c H [] 0 0 (MQ below (Qv9 D A []) args s 0 0 A) (entryFrame m args 1) by rw [hHe] at K0; exact K0
  refine W.eq (g2 := entryFrame m ([.int (nI xx)] : List Value).toArray 1) (by rw [hargs]) ?_
  have hl := lv_entry ([.int (nI xx)]) (n := 1) (Nat.le_of_ble_eq_true rfl)
  rw [lg_entry_eq]
  generalize (lg_sl ([.int (nI xx)]) ++ List.replicate (1 - (lg_sl ([.int (nI xx)])).length) Slot.unset).toArray = ls at hl ⊢
  have hl : lv_has ls 1 [(0, .int (nI xx))] := hl
  generalize ([] : List Loc) = locs at hS ⊢
  refine lv_iload_n hx hb dX5_requireKilometre_0 rfl (lv_at hl 0 rfl) ?_
  refine c0_lt (tgt := 10) hx hb dX5_requireKilometre_1 (by decide) (nT (by omega)) (fun c_1 => by omega) (fun c_1 => ?_)
  refine lv_iload_n hx hb dX5_requireKilometre_4 rfl (lv_at hl 0 rfl) ?_
  refine lv_bipush (v := nI 20) hx hb dX5_requireKilometre_5 (by decide) ?_
  refine ci_lt (tgt := 20) hx hb dX5_requireKilometre_7 (by decide) (nT (by omega)) (nT (by omega)) (fun c_7 => ?_) (fun c_7 => by omega)
  exact fin_v hx hb hr hlocks hP hD hS dX5_requireKilometre_20
set_option maxHeartbeats 4000000 in
set_option maxRecDepth 100000 in
theorem c_X5_requireLayer (l : Launch) (D : va_G) (cI cJ cZ : ClassId) (xx : Nat) (hxx : xx < 10) (sz : Nat) : Met l yX5_requireLayer wsX5_requireLayer ({ frames := 0, cells := 0, slots := 0, locals := 0 } : Room) (va_Pc [.int (nI xx)] (mPre D cI cJ cZ [] sz)) (Qv9 D (va_A [] sz) []) 0 0 (va_A [] sz) := by
  refine Met.ofW (cc := cX5_requireLayer) (maxL := 1) (ret := none) (by decide) rfl ?_
  intro p e s m args below meth c s₁ B hml hv
  obtain ⟨hargs, hsz, hP, hT, hD0⟩ := hv
  have hx := B.exec
  have hb := B.bytes
  have hr := B.returns
  have hts := atoms_spec (ws := wsX5_requireLayer) B.pre
  have hown : s.vm.findClass RX5 = some m.cls := findClass_of_methodNamed B.named
  have hlocks := B.notSynchronized
  subst hsz
  have hK := hT.1
  have hD := hD0.self (sz := s.heap.size)
  generalize hAe : va_A [] s.heap.size = A at hD ⊢
  have hA : ∀ q : Nat, s.heap.size ≤ q → A q := fun q h => by rw [← hAe]; exact Or.inr h
  have hS : va_S A s.heap s.heap [] := va_S.rf
  obtain ⟨H, hHe⟩ : ∃ H : Heap, H = s.heap := ⟨_, rfl⟩
  have hS : va_S A s.heap H [] := by rw [hHe]; exact va_S.rf
  rw [← hHe] at hP
  suffices K0 : W p l e (headSpec wsX5_requireLayer ({ frames := 0, cells := 0, slots := 0, locals := 0 } : Room)).room s m args below meth c H [] 0 0 (MQ below (Qv9 D A []) args s 0 0 A) (entryFrame m args 1) by rw [hHe] at K0; exact K0
  refine W.eq (g2 := entryFrame m ([.int (nI xx)] : List Value).toArray 1) (by rw [hargs]) ?_
  have hl := lv_entry ([.int (nI xx)]) (n := 1) (Nat.le_of_ble_eq_true rfl)
  rw [lg_entry_eq]
  generalize (lg_sl ([.int (nI xx)]) ++ List.replicate (1 - (lg_sl ([.int (nI xx)])).length) Slot.unset).toArray = ls at hl ⊢
  have hl : lv_has ls 1 [(0, .int (nI xx))] := hl
  generalize ([] : List Loc) = locs at hS ⊢
  refine lv_iload_n hx hb dX5_requireLayer_0 rfl (lv_at hl 0 rfl) ?_
  refine c0_lt (tgt := 10) hx hb dX5_requireLayer_1 (by decide) (nT (by omega)) (fun c_1 => by omega) (fun c_1 => ?_)
  refine lv_iload_n hx hb dX5_requireLayer_4 rfl (lv_at hl 0 rfl) ?_
  refine lv_bipush (v := nI 10) hx hb dX5_requireLayer_5 (by decide) ?_
  refine ci_lt (tgt := 20) hx hb dX5_requireLayer_7 (by decide) (nT (by omega)) (nT (by omega)) (fun c_7 => ?_) (fun c_7 => by omega)
  exact fin_v hx hb hr hlocks hP hD hS dX5_requireLayer_20
set_option maxHeartbeats 4000000 in
set_option maxRecDepth 100000 in
theorem c_X5_requireRange (l : Launch) (D : va_G) (cI cJ cZ : ClassId) (xx : Nat) (xlo : Nat) (xhi : Nat) (hxl : xlo ≤ xx) (hxh : xx ≤ xhi) (hxb : xhi < 100000) (sz : Nat) : Met l yX5_requireRange wsX5_requireRange ({ frames := 0, cells := 0, slots := 0, locals := 0 } : Room) (va_Pc [.int (nI xx), .int (nI xlo), .int (nI xhi)] (mPre D cI cJ cZ [] sz)) (Qv9 D (va_A [] sz) []) 0 0 (va_A [] sz) := by
  refine Met.ofW (cc := cX5_requireRange) (maxL := 3) (ret := none) (by decide) rfl ?_
  intro p e s m args below meth c s₁ B hml hv
  obtain ⟨hargs, hsz, hP, hT, hD0⟩ := hv
  have hx := B.exec
  have hb := B.bytes
  have hr := B.returns
  have hts := atoms_spec (ws := wsX5_requireRange) B.pre
  have hown : s.vm.findClass RX5 = some m.cls := findClass_of_methodNamed B.named
  have hlocks := B.notSynchronized
  subst hsz
  have hK := hT.1
  have hD := hD0.self (sz := s.heap.size)
  generalize hAe : va_A [] s.heap.size = A at hD ⊢
  have hA : ∀ q : Nat, s.heap.size ≤ q → A q := fun q h => by rw [← hAe]; exact Or.inr h
  have hS : va_S A s.heap s.heap [] := va_S.rf
  obtain ⟨H, hHe⟩ : ∃ H : Heap, H = s.heap := ⟨_, rfl⟩
  have hS : va_S A s.heap H [] := by rw [hHe]; exact va_S.rf
  rw [← hHe] at hP
  suffices K0 : W p l e (headSpec wsX5_requireRange ({ frames := 0, cells := 0, slots := 0, locals := 0 } : Room)).room s m args below meth c H [] 0 0 (MQ below (Qv9 D A []) args s 0 0 A) (entryFrame m args 3) by rw [hHe] at K0; exact K0
  refine W.eq (g2 := entryFrame m ([.int (nI xx), .int (nI xlo), .int (nI xhi)] : List Value).toArray 3) (by rw [hargs]) ?_
  have hl := lv_entry ([.int (nI xx), .int (nI xlo), .int (nI xhi)]) (n := 3) (Nat.le_of_ble_eq_true rfl)
  rw [lg_entry_eq]
  generalize (lg_sl ([.int (nI xx), .int (nI xlo), .int (nI xhi)]) ++ List.replicate (3 - (lg_sl ([.int (nI xx), .int (nI xlo), .int (nI xhi)])).length) Slot.unset).toArray = ls at hl ⊢
  have hl : lv_has ls 3 [(0, .int (nI xx)), (1, .int (nI xlo)), (2, .int (nI xhi))] := hl
  generalize ([] : List Loc) = locs at hS ⊢
  refine lv_iload_n hx hb dX5_requireRange_0 rfl (lv_at hl 0 rfl) ?_
  refine lv_iload_n hx hb dX5_requireRange_1 rfl (lv_at hl 1 rfl) ?_
  refine ci_lt (tgt := 10) hx hb dX5_requireRange_2 (by decide) (nT (by omega)) (nT (by omega)) (fun c_2 => by omega) (fun c_2 => ?_)
  refine lv_iload_n hx hb dX5_requireRange_5 rfl (lv_at hl 0 rfl) ?_
  refine lv_iload_n hx hb dX5_requireRange_6 rfl (lv_at hl 2 rfl) ?_
  refine ci_le (tgt := 20) hx hb dX5_requireRange_7 (by decide) (nT (by omega)) (nT (by omega)) (fun c_7 => ?_) (fun c_7 => by omega)
  exact fin_v hx hb hr hlocks hP hD hS dX5_requireRange_20
set_option maxHeartbeats 4000000 in
set_option maxRecDepth 100000 in
theorem c_X5_requireGauge (l : Launch) (D : va_G) (cI cJ cZ : ClassId) (h0 : Nat) (ai : Nat) (pu : Nat) (pa : Nat) (ga : Nat) (sc : Nat) (hi : Nat) (gr : Nat) (me : Nat) (dp : Nat) (up : Bool) (mi : Nat) (ru : Nat) (wp : Int64) (wl : Int64) (g1 : Nat) (g2 : Nat) (g3 : Nat) (UP : Nat → Bool) (CL : Nat → Bool) (CO : Nat → Int64) (ki : Nat) (hki : ki < 20) (hup : UP ki = true) (sz : Nat) : Met l yX5_requireGauge wsX5_requireGauge ({ frames := 2, cells := 0, slots := 0, locals := 41 } : Room) (va_Pc [.ref h0, .int (nI ki)] (mPre D cI cJ cZ [(h0, .inr (5, [.ref ai, .ref pu, .ref pa, .ref ga, .ref sc, .ref hi, .ref gr, .int (nI me), .int (nI dp), .int (bI up), .int (nI mi), .int (nI ru), .long wp, .long wl])), (ga, .inr (1, [.ref g1, .ref g2, .ref g3])), (g1, .inl (cZ, 20, .inl (bA UP))), (g2, .inl (cZ, 20, .inl (bA CL))), (g3, .inl (cJ, 20, .inr (.inl CO)))] sz)) (Qv9 D (va_A [(h0, .inr (5, [.ref ai, .ref pu, .ref pa, .ref ga, .ref sc, .ref hi, .ref gr, .int (nI me), .int (nI dp), .int (bI up), .int (nI mi), .int (nI ru), .long wp, .long wl])), (ga, .inr (1, [.ref g1, .ref g2, .ref g3])), (g1, .inl (cZ, 20, .inl (bA UP))), (g2, .inl (cZ, 20, .inl (bA CL))), (g3, .inl (cJ, 20, .inr (.inl CO)))] sz) [(h0, .inr (5, [.ref ai, .ref pu, .ref pa, .ref ga, .ref sc, .ref hi, .ref gr, .int (nI me), .int (nI dp), .int (bI up), .int (nI mi), .int (nI ru), .long wp, .long wl])), (ga, .inr (1, [.ref g1, .ref g2, .ref g3])), (g1, .inl (cZ, 20, .inl (bA UP))), (g2, .inl (cZ, 20, .inl (bA CL))), (g3, .inl (cJ, 20, .inr (.inl CO)))]) 0 0 (va_A [(h0, .inr (5, [.ref ai, .ref pu, .ref pa, .ref ga, .ref sc, .ref hi, .ref gr, .int (nI me), .int (nI dp), .int (bI up), .int (nI mi), .int (nI ru), .long wp, .long wl])), (ga, .inr (1, [.ref g1, .ref g2, .ref g3])), (g1, .inl (cZ, 20, .inl (bA UP))), (g2, .inl (cZ, 20, .inl (bA CL))), (g3, .inl (cJ, 20, .inr (.inl CO)))] sz) := by
  refine Met.ofW (cc := cX5_requireGauge) (maxL := 2) (ret := none) (by decide) rfl ?_
  intro p e s m args below meth c s₁ B hml hv
  obtain ⟨hargs, hsz, hP, hT, hD0⟩ := hv
  have hx := B.exec
  have hb := B.bytes
  have hr := B.returns
  have hts := atoms_spec (ws := wsX5_requireGauge) B.pre
  have hown : s.vm.findClass RX5 = some m.cls := findClass_of_methodNamed B.named
  have hlocks := B.notSynchronized
  subst hsz
  have hK := hT.1
  have hD := hD0.self (sz := s.heap.size)
  generalize hAe : va_A [(h0, .inr (5, [.ref ai, .ref pu, .ref pa, .ref ga, .ref sc, .ref hi, .ref gr, .int (nI me), .int (nI dp), .int (bI up), .int (nI mi), .int (nI ru), .long wp, .long wl])), (ga, .inr (1, [.ref g1, .ref g2, .ref g3])), (g1, .inl (cZ, 20, .inl (bA UP))), (g2, .inl (cZ, 20, .inl (bA CL))), (g3, .inl (cJ, 20, .inr (.inl CO)))] s.heap.size = A at hD ⊢
  have hA : ∀ q : Nat, s.heap.size ≤ q → A q := fun q h => by rw [← hAe]; exact Or.inr h
  have hS : va_S A s.heap s.heap [] := va_S.rf
  obtain ⟨H, hHe⟩ : ∃ H : Heap, H = s.heap := ⟨_, rfl⟩
  have hS : va_S A s.heap H [] := by rw [hHe]; exact va_S.rf
  rw [← hHe] at hP
  suffices K0 : W p l e (headSpec wsX5_requireGauge ({ frames := 2, cells := 0, slots := 0, locals := 41 } : Room)).room s m args below meth c H [] 0 0 (MQ below (Qv9 D A [(h0, .inr (5, [.ref ai, .ref pu, .ref pa, .ref ga, .ref sc, .ref hi, .ref gr, .int (nI me), .int (nI dp), .int (bI up), .int (nI mi), .int (nI ru), .long wp, .long wl])), (ga, .inr (1, [.ref g1, .ref g2, .ref g3])), (g1, .inl (cZ, 20, .inl (bA UP))), (g2, .inl (cZ, 20, .inl (bA CL))), (g3, .inl (cJ, 20, .inr (.inl CO)))]) args s 0 0 A) (entryFrame m args 2) by rw [hHe] at K0; exact K0
  refine W.eq (g2 := entryFrame m ([.ref h0, .int (nI ki)] : List Value).toArray 2) (by rw [hargs]) ?_
  have hl := lv_entry ([.ref h0, .int (nI ki)]) (n := 2) (Nat.le_of_ble_eq_true rfl)
  rw [lg_entry_eq]
  generalize (lg_sl ([.ref h0, .int (nI ki)]) ++ List.replicate (2 - (lg_sl ([.ref h0, .int (nI ki)])).length) Slot.unset).toArray = ls at hl ⊢
  have hl : lv_has ls 2 [(0, .ref h0), (1, .int (nI ki))] := hl
  generalize ([] : List Loc) = locs at hS ⊢
  have hinX5 : ∀ w ∈ wsX50, w ∈ wsX5_requireGauge := by decide +kernel
  have hf33 := hts (.fieldLink RX5 33 "Brightband" "gauges" "LBrightband$Gauges;") (by decide +kernel)
  refine lv_aload_n hx hb dX5_requireGauge_0 rfl (lv_at hl 0 rfl) ?_
  refine va_get (D := D) (ci := 5) (v := .ref ga) (C := RX5) (T := TX5) (N := 14) hx hb hts hinX5 hown hK hP 0 rfl rfl 3 (by decide) hf33 (fun _ h9 => h9) rfl dX5_requireGauge_1 ?_
  refine lv_iload_n hx hb dX5_requireGauge_4 rfl (lv_at hl 1 rfl) ?_
  refine cr_i (wc := [(ga, .inr (1, [.ref g1, .ref g2, .ref g3])), (g1, .inl (cZ, 20, .inl (bA UP))), (g2, .inl (cZ, 20, .inl (bA CL))), (g3, .inl (cJ, 20, .inr (.inl CO)))]) (w1 := [(ga, .inr (1, [.ref g1, .ref g2, .ref g3])), (g1, .inl (cZ, 20, .inl (bA UP))), (g2, .inl (cZ, 20, .inl (bA CL))), (g3, .inl (cJ, 20, .inr (.inl CO)))]) (ws2 := [(h0, .inr (5, [.ref ai, .ref pu, .ref pa, .ref ga, .ref sc, .ref hi, .ref gr, .int (nI me), .int (nI dp), .int (bI up), .int (nI mi), .int (nI ru), .long wp, .long wl])), (ga, .inr (1, [.ref g1, .ref g2, .ref g3])), (g1, .inl (cZ, 20, .inl (bA UP))), (g2, .inl (cZ, 20, .inl (bA CL))), (g3, .inl (cJ, 20, .inr (.inl CO)))]) hP hD hS hA [1, 2, 3, 4] rfl rfl rfl (va_runV (As := [.int (nI ki)]) (rest := []) ⟨hx, hb, hml, hown, hts⟩ (c_X1_isUp l D cI cJ cZ ga g1 g2 g3 UP CL CO ki (by omega) H.size) (cwV 1 hts gX5_requireGauge_X1_isUp rfl rfl rfl (by decide +kernel) ⟨Nat.le_of_ble_eq_true rfl, Nat.le_of_ble_eq_true rfl⟩) (pvV hT hP hD [1, 2, 3, 4] rfl rfl 0 rfl rfl) rfl rfl hl.1 rfl (lv_room (Nat.le_of_ble_eq_true rfl)) dX5_requireGauge_5 ⟨Nat.zero_le _, Nat.zero_le _⟩) (fun H locs hP hD hS => ?_)
  refine cb_ne (tgt := 21) hx hb dX5_requireGauge_8 (by decide) (fun c_8 => ?_) (fun c_8 => by rw [hup] at c_8; cases c_8)
  exact fin_v hx hb hr hlocks hP hD hS dX5_requireGauge_21
set_option maxHeartbeats 4000000 in
set_option maxRecDepth 100000 in
theorem c_X5_drops (l : Launch) (D : va_G) (cI cJ cZ : ClassId) (h0 : Nat) (ai : Nat) (pu : Nat) (pa : Nat) (ga : Nat) (sc : Nat) (hi : Nat) (gr : Nat) (me : Nat) (dp : Nat) (up : Bool) (mi : Nat) (ru : Nat) (wp : Int64) (wl : Int64) (a1 : Nat) (C : Nat → Nat) (u1 : Nat) (u2 : Nat) (u3 : Nat) (u4 : Nat) (u5 : Nat) (PK : Nat → Nat) (PL : Nat → Nat) (PS : Nat → Nat) (PN : Nat → Nat) (PM : Nat → Nat) (pn : Nat) (ki : Nat) (la : Nat) (si : Nat) (mn : Nat) (hki : ki < 20) (hla : la < 10) (hs1 : 1 ≤ si) (hs3 : si ≤ 3) (hm1 : 1 ≤ mn) (hm2 : mn ≤ 1000) (hpn : pn < 100) (sz : Nat) : Met l yX5_drops wsX5_drops ({ frames := 2, cells := 0, slots := 0, locals := 47 } : Room) (va_Pc [.ref h0, .int (nI ki), .int (nI la), .int (nI si), .int (nI mn)] (mPre D cI cJ cZ [(h0, .inr (5, [.ref ai, .ref pu, .ref pa, .ref ga, .ref sc, .ref hi, .ref gr, .int (nI me), .int (nI dp), .int (bI up), .int (nI mi), .int (nI ru), .long wp, .long wl])), (ai, .inr (0, [.ref a1])), (a1, .inl (cI, 600, .inl (nA C))), (pu, .inr (3, [.ref u1, .ref u2, .ref u3, .ref u4, .ref u5, .int (nI pn)])), (u1, .inl (cI, 100, .inl (nA PK))), (u2, .inl (cI, 100, .inl (nA PL))), (u3, .inl (cI, 100, .inl (nA PS))), (u4, .inl (cI, 100, .inl (nA PN))), (u5, .inl (cI, 100, .inl (nA PM)))] sz)) (Qi9 D (va_A [(h0, .inr (5, [.ref ai, .ref pu, .ref pa, .ref ga, .ref sc, .ref hi, .ref gr, .int (nI me), .int (nI dp), .int (bI up), .int (nI mi), .int (nI ru), .long wp, .long wl])), (ai, .inr (0, [.ref a1])), (a1, .inl (cI, 600, .inl (nA C))), (pu, .inr (3, [.ref u1, .ref u2, .ref u3, .ref u4, .ref u5, .int (nI pn)])), (u1, .inl (cI, 100, .inl (nA PK))), (u2, .inl (cI, 100, .inl (nA PL))), (u3, .inl (cI, 100, .inl (nA PS))), (u4, .inl (cI, 100, .inl (nA PN))), (u5, .inl (cI, 100, .inl (nA PM)))] sz) [(h0, .inr (5, [.ref ai, .ref pu, .ref pa, .ref ga, .ref sc, .ref hi, .ref gr, .int (nI me), .int (nI dp), .int (bI up), .int (nI mi), .int (nI ru), .long (wp + wtr si mn), .long wl])), (ai, .inr (0, [.ref a1])), (a1, .inl (cI, 600, .inl (nA (uN C (30 * ki + 3 * la + (si - 1)) (C (30 * ki + 3 * la + (si - 1)) + mn))))), (pu, .inr (3, [.ref u1, .ref u2, .ref u3, .ref u4, .ref u5, .int (nI (pn + 1))])), (u1, .inl (cI, 100, .inl (nA (uN PK pn ki)))), (u2, .inl (cI, 100, .inl (nA (uN PL pn la)))), (u3, .inl (cI, 100, .inl (nA (uN PS pn si)))), (u4, .inl (cI, 100, .inl (nA (uN PN pn mn)))), (u5, .inl (cI, 100, .inl (nA (uN PM pn mi))))] (nI (C (30 * ki + 3 * la + (si - 1)) + mn))) 0 0 (va_A [(h0, .inr (5, [.ref ai, .ref pu, .ref pa, .ref ga, .ref sc, .ref hi, .ref gr, .int (nI me), .int (nI dp), .int (bI up), .int (nI mi), .int (nI ru), .long wp, .long wl])), (ai, .inr (0, [.ref a1])), (a1, .inl (cI, 600, .inl (nA C))), (pu, .inr (3, [.ref u1, .ref u2, .ref u3, .ref u4, .ref u5, .int (nI pn)])), (u1, .inl (cI, 100, .inl (nA PK))), (u2, .inl (cI, 100, .inl (nA PL))), (u3, .inl (cI, 100, .inl (nA PS))), (u4, .inl (cI, 100, .inl (nA PN))), (u5, .inl (cI, 100, .inl (nA PM)))] sz) := by
  refine Met.ofW (cc := cX5_drops) (maxL := 5) (ret := (some .int)) (by decide) rfl ?_
  intro p e s m args below meth c s₁ B hml hv
  obtain ⟨hargs, hsz, hP, hT, hD0⟩ := hv
  have hx := B.exec
  have hb := B.bytes
  have hr := B.returns
  have hts := atoms_spec (ws := wsX5_drops) B.pre
  have hown : s.vm.findClass RX5 = some m.cls := findClass_of_methodNamed B.named
  have hlocks := B.notSynchronized
  subst hsz
  have hK := hT.1
  have hD := hD0.self (sz := s.heap.size)
  generalize hAe : va_A [(h0, .inr (5, [.ref ai, .ref pu, .ref pa, .ref ga, .ref sc, .ref hi, .ref gr, .int (nI me), .int (nI dp), .int (bI up), .int (nI mi), .int (nI ru), .long wp, .long wl])), (ai, .inr (0, [.ref a1])), (a1, .inl (cI, 600, .inl (nA C))), (pu, .inr (3, [.ref u1, .ref u2, .ref u3, .ref u4, .ref u5, .int (nI pn)])), (u1, .inl (cI, 100, .inl (nA PK))), (u2, .inl (cI, 100, .inl (nA PL))), (u3, .inl (cI, 100, .inl (nA PS))), (u4, .inl (cI, 100, .inl (nA PN))), (u5, .inl (cI, 100, .inl (nA PM)))] s.heap.size = A at hD ⊢
  have hA : ∀ q : Nat, s.heap.size ≤ q → A q := fun q h => by rw [← hAe]; exact Or.inr h
  have hS : va_S A s.heap s.heap [] := va_S.rf
  obtain ⟨H, hHe⟩ : ∃ H : Heap, H = s.heap := ⟨_, rfl⟩
  have hS : va_S A s.heap H [] := by rw [hHe]; exact va_S.rf
  rw [← hHe] at hP
  suffices K0 : W p l e (headSpec wsX5_drops ({ frames := 2, cells := 0, slots := 0, locals := 47 } : Room)).room s m args below meth c H [] 0 0 (MQ below (Qi9 D A [(h0, .inr (5, [.ref ai, .ref pu, .ref pa, .ref ga, .ref sc, .ref hi, .ref gr, .int (nI me), .int (nI dp), .int (bI up), .int (nI mi), .int (nI ru), .long (wp + wtr si mn), .long wl])), (ai, .inr (0, [.ref a1])), (a1, .inl (cI, 600, .inl (nA (uN C (30 * ki + 3 * la + (si - 1)) (C (30 * ki + 3 * la + (si - 1)) + mn))))), (pu, .inr (3, [.ref u1, .ref u2, .ref u3, .ref u4, .ref u5, .int (nI (pn + 1))])), (u1, .inl (cI, 100, .inl (nA (uN PK pn ki)))), (u2, .inl (cI, 100, .inl (nA (uN PL pn la)))), (u3, .inl (cI, 100, .inl (nA (uN PS pn si)))), (u4, .inl (cI, 100, .inl (nA (uN PN pn mn)))), (u5, .inl (cI, 100, .inl (nA (uN PM pn mi))))] (nI (C (30 * ki + 3 * la + (si - 1)) + mn))) args s 0 0 A) (entryFrame m args 5) by rw [hHe] at K0; exact K0
  refine W.eq (g2 := entryFrame m ([.ref h0, .int (nI ki), .int (nI la), .int (nI si), .int (nI mn)] : List Value).toArray 5) (by rw [hargs]) ?_
  have hl := lv_entry ([.ref h0, .int (nI ki), .int (nI la), .int (nI si), .int (nI mn)]) (n := 5) (Nat.le_of_ble_eq_true rfl)
  rw [lg_entry_eq]
  generalize (lg_sl ([.ref h0, .int (nI ki), .int (nI la), .int (nI si), .int (nI mn)]) ++ List.replicate (5 - (lg_sl ([.ref h0, .int (nI ki), .int (nI la), .int (nI si), .int (nI mn)])).length) Slot.unset).toArray = ls at hl ⊢
  have hl : lv_has ls 5 [(0, .ref h0), (1, .int (nI ki)), (2, .int (nI la)), (3, .int (nI si)), (4, .int (nI mn))] := hl
  generalize ([] : List Loc) = locs at hS ⊢
  have hinX5 : ∀ w ∈ wsX50, w ∈ wsX5_drops := by decide +kernel
  have hf19 := hts (.fieldLink RX5 19 "Brightband" "puts" "LBrightband$Puts;") (by decide +kernel)
  have hinX3 : ∀ w ∈ wsX30, w ∈ wsX5_drops := by decide +kernel
  have hf12 := hts (.fieldLink RX5 12 "Brightband" "air" "LBrightband$Air;") (by decide +kernel)
  have hf63 := hts (.fieldLink RX5 63 "Brightband" "minute" "I") (by decide +kernel)
  have hf69 := hts (.fieldLink RX5 69 "Brightband" "waterPut" "J") (by decide +kernel)
  refine lv_iload_n hx hb dX5_drops_0 rfl (lv_at hl 1 rfl) ?_
  refine cr_v (wc := []) (w1 := []) (ws2 := [(h0, .inr (5, [.ref ai, .ref pu, .ref pa, .ref ga, .ref sc, .ref hi, .ref gr, .int (nI me), .int (nI dp), .int (bI up), .int (nI mi), .int (nI ru), .long wp, .long wl])), (ai, .inr (0, [.ref a1])), (a1, .inl (cI, 600, .inl (nA C))), (pu, .inr (3, [.ref u1, .ref u2, .ref u3, .ref u4, .ref u5, .int (nI pn)])), (u1, .inl (cI, 100, .inl (nA PK))), (u2, .inl (cI, 100, .inl (nA PL))), (u3, .inl (cI, 100, .inl (nA PS))), (u4, .inl (cI, 100, .inl (nA PN))), (u5, .inl (cI, 100, .inl (nA PM)))]) hP hD hS hA [] rfl rfl rfl (va_runS (As := [.int (nI ki)]) (rest := []) ⟨hx, hb, hml, hown, hts⟩ (c_X5_requireKilometre l D cI cJ cZ ki (by omega) H.size) (va_cwS 1 hts gX5_drops_X5_requireKilometre rfl rfl rfl (by decide +kernel) ⟨Nat.le_of_ble_eq_true rfl, Nat.le_of_ble_eq_true rfl⟩) (pvS hT hP hD [] rfl rfl) rfl rfl hl.1 rfl (lv_room (Nat.le_of_ble_eq_true rfl)) dX5_drops_1 ⟨Nat.zero_le _, Nat.zero_le _⟩) (fun H locs hP hD hS => ?_)
  refine lv_iload_n hx hb dX5_drops_4 rfl (lv_at hl 2 rfl) ?_
  refine cr_v (wc := []) (w1 := []) (ws2 := [(h0, .inr (5, [.ref ai, .ref pu, .ref pa, .ref ga, .ref sc, .ref hi, .ref gr, .int (nI me), .int (nI dp), .int (bI up), .int (nI mi), .int (nI ru), .long wp, .long wl])), (ai, .inr (0, [.ref a1])), (a1, .inl (cI, 600, .inl (nA C))), (pu, .inr (3, [.ref u1, .ref u2, .ref u3, .ref u4, .ref u5, .int (nI pn)])), (u1, .inl (cI, 100, .inl (nA PK))), (u2, .inl (cI, 100, .inl (nA PL))), (u3, .inl (cI, 100, .inl (nA PS))), (u4, .inl (cI, 100, .inl (nA PN))), (u5, .inl (cI, 100, .inl (nA PM)))]) hP hD hS hA [] rfl rfl rfl (va_runS (As := [.int (nI la)]) (rest := []) ⟨hx, hb, hml, hown, hts⟩ (c_X5_requireLayer l D cI cJ cZ la (by omega) H.size) (va_cwS 1 hts gX5_drops_X5_requireLayer rfl rfl rfl (by decide +kernel) ⟨Nat.le_of_ble_eq_true rfl, Nat.le_of_ble_eq_true rfl⟩) (pvS hT hP hD [] rfl rfl) rfl rfl hl.1 rfl (lv_room (Nat.le_of_ble_eq_true rfl)) dX5_drops_5 ⟨Nat.zero_le _, Nat.zero_le _⟩) (fun H locs hP hD hS => ?_)
  refine lv_iload_n hx hb dX5_drops_8 rfl (lv_at hl 3 rfl) ?_
  refine lv_iconst (v := nI 1) hx hb dX5_drops_9 (by decide) ?_
  refine lv_iconst (v := nI 3) hx hb dX5_drops_10 (by decide) ?_
  refine cr_v (wc := []) (w1 := []) (ws2 := [(h0, .inr (5, [.ref ai, .ref pu, .ref pa, .ref ga, .ref sc, .ref hi, .ref gr, .int (nI me), .int (nI dp), .int (bI up), .int (nI mi), .int (nI ru), .long wp, .long wl])), (ai, .inr (0, [.ref a1])), (a1, .inl (cI, 600, .inl (nA C))), (pu, .inr (3, [.ref u1, .ref u2, .ref u3, .ref u4, .ref u5, .int (nI pn)])), (u1, .inl (cI, 100, .inl (nA PK))), (u2, .inl (cI, 100, .inl (nA PL))), (u3, .inl (cI, 100, .inl (nA PS))), (u4, .inl (cI, 100, .inl (nA PN))), (u5, .inl (cI, 100, .inl (nA PM)))]) hP hD hS hA [] rfl rfl rfl (va_runS (As := [.int (nI si), .int (nI 1), .int (nI 3)]) (rest := []) ⟨hx, hb, hml, hown, hts⟩ (c_X5_requireRange l D cI cJ cZ si 1 3 (by omega) (by omega) (by omega) H.size) (va_cwS 3 hts gX5_drops_X5_requireRange rfl rfl rfl (by decide +kernel) ⟨Nat.le_of_ble_eq_true rfl, Nat.le_of_ble_eq_true rfl⟩) (pvS hT hP hD [] rfl rfl) rfl rfl hl.1 rfl (lv_room (Nat.le_of_ble_eq_true rfl)) dX5_drops_11 ⟨Nat.zero_le _, Nat.zero_le _⟩) (fun H locs hP hD hS => ?_)
  refine lv_iload hx hb dX5_drops_14 (lv_at hl 4 rfl) ?_
  refine lv_iconst (v := nI 1) hx hb dX5_drops_16 (by decide) ?_
  refine lv_sipush (v := nI 1000) hx hb dX5_drops_17 (by decide) ?_
  refine cr_v (wc := []) (w1 := []) (ws2 := [(h0, .inr (5, [.ref ai, .ref pu, .ref pa, .ref ga, .ref sc, .ref hi, .ref gr, .int (nI me), .int (nI dp), .int (bI up), .int (nI mi), .int (nI ru), .long wp, .long wl])), (ai, .inr (0, [.ref a1])), (a1, .inl (cI, 600, .inl (nA C))), (pu, .inr (3, [.ref u1, .ref u2, .ref u3, .ref u4, .ref u5, .int (nI pn)])), (u1, .inl (cI, 100, .inl (nA PK))), (u2, .inl (cI, 100, .inl (nA PL))), (u3, .inl (cI, 100, .inl (nA PS))), (u4, .inl (cI, 100, .inl (nA PN))), (u5, .inl (cI, 100, .inl (nA PM)))]) hP hD hS hA [] rfl rfl rfl (va_runS (As := [.int (nI mn), .int (nI 1), .int (nI 1000)]) (rest := []) ⟨hx, hb, hml, hown, hts⟩ (c_X5_requireRange l D cI cJ cZ mn 1 1000 (by omega) (by omega) (by omega) H.size) (va_cwS 3 hts gX5_drops_X5_requireRange rfl rfl rfl (by decide +kernel) ⟨Nat.le_of_ble_eq_true rfl, Nat.le_of_ble_eq_true rfl⟩) (pvS hT hP hD [] rfl rfl) rfl rfl hl.1 rfl (lv_room (Nat.le_of_ble_eq_true rfl)) dX5_drops_20 ⟨Nat.zero_le _, Nat.zero_le _⟩) (fun H locs hP hD hS => ?_)
  refine lv_aload_n hx hb dX5_drops_23 rfl (lv_at hl 0 rfl) ?_
  refine va_get (D := D) (ci := 5) (v := .ref pu) (C := RX5) (T := TX5) (N := 14) hx hb hts hinX5 hown hK hP 0 rfl rfl 1 (by decide) hf19 (fun _ h9 => h9) rfl dX5_drops_24 ?_
  refine va_getN (D := D) (ci := 3) (v := .int (nI pn)) (C := RX3) (T := TX3) (N := 6) hx hb hts hinX3 hown hK hP 3 rfl rfl 5 (by decide) (va_Nw.use rfl hT.2.2.2.2.2.2.2.2.2.2) (fun _ h9 => h9) rfl dX5_drops_27 ?_
  refine lv_bipush (v := nI 100) hx hb dX5_drops_30 (by decide) ?_
  refine ci_lt (tgt := 45) hx hb dX5_drops_32 (by decide) (nT (by omega)) (nT (by omega)) (fun c_32 => ?_) (fun c_32 => by omega)
  refine lv_aload_n hx hb dX5_drops_45 rfl (lv_at hl 0 rfl) ?_
  refine va_get (D := D) (ci := 5) (v := .ref ai) (C := RX5) (T := TX5) (N := 14) hx hb hts hinX5 hown hK hP 0 rfl rfl 0 (by decide) hf12 (fun _ h9 => h9) rfl dX5_drops_46 ?_
  refine lv_iload_n hx hb dX5_drops_49 rfl (lv_at hl 1 rfl) ?_
  refine lv_iload_n hx hb dX5_drops_50 rfl (lv_at hl 2 rfl) ?_
  refine lv_iload_n hx hb dX5_drops_51 rfl (lv_at hl 3 rfl) ?_
  refine lv_iload hx hb dX5_drops_52 (lv_at hl 4 rfl) ?_
  refine cr_v (wc := [(ai, .inr (0, [.ref a1])), (a1, .inl (cI, 600, .inl (nA C)))]) (w1 := [(ai, .inr (0, [.ref a1])), (a1, .inl (cI, 600, .inl (nA (uN C (30 * ki + 3 * la + (si - 1)) (C (30 * ki + 3 * la + (si - 1)) + mn)))))]) (ws2 := [(h0, .inr (5, [.ref ai, .ref pu, .ref pa, .ref ga, .ref sc, .ref hi, .ref gr, .int (nI me), .int (nI dp), .int (bI up), .int (nI mi), .int (nI ru), .long wp, .long wl])), (ai, .inr (0, [.ref a1])), (a1, .inl (cI, 600, .inl (nA (uN C (30 * ki + 3 * la + (si - 1)) (C (30 * ki + 3 * la + (si - 1)) + mn))))), (pu, .inr (3, [.ref u1, .ref u2, .ref u3, .ref u4, .ref u5, .int (nI pn)])), (u1, .inl (cI, 100, .inl (nA PK))), (u2, .inl (cI, 100, .inl (nA PL))), (u3, .inl (cI, 100, .inl (nA PS))), (u4, .inl (cI, 100, .inl (nA PN))), (u5, .inl (cI, 100, .inl (nA PM)))]) hP hD hS hA [1, 2] rfl rfl rfl (va_runV (As := [.int (nI ki), .int (nI la), .int (nI si), .int (nI mn)]) (rest := []) ⟨hx, hb, hml, hown, hts⟩ (c_X0_add l D cI cJ cZ ai a1 C ki la si mn (by omega) (by omega) (by omega) (by omega) H.size) (cwV 4 hts gX5_drops_X0_add rfl rfl rfl (by decide +kernel) ⟨Nat.le_of_ble_eq_true rfl, Nat.le_of_ble_eq_true rfl⟩) (pvV hT hP hD [1, 2] rfl rfl 0 rfl rfl) rfl rfl hl.1 rfl (lv_room (Nat.le_of_ble_eq_true rfl)) dX5_drops_54 ⟨Nat.zero_le _, Nat.zero_le _⟩) (fun H locs hP hD hS => ?_)
  refine lv_aload_n hx hb dX5_drops_57 rfl (lv_at hl 0 rfl) ?_
  refine va_get (D := D) (ci := 5) (v := .ref pu) (C := RX5) (T := TX5) (N := 14) hx hb hts hinX5 hown hK hP 0 rfl rfl 1 (by decide) hf19 (fun _ h9 => h9) rfl dX5_drops_58 ?_
  refine lv_iload_n hx hb dX5_drops_61 rfl (lv_at hl 1 rfl) ?_
  refine lv_iload_n hx hb dX5_drops_62 rfl (lv_at hl 2 rfl) ?_
  refine lv_iload_n hx hb dX5_drops_63 rfl (lv_at hl 3 rfl) ?_
  refine lv_iload hx hb dX5_drops_64 (lv_at hl 4 rfl) ?_
  refine lv_aload_n hx hb dX5_drops_66 rfl (lv_at hl 0 rfl) ?_
  refine va_get (D := D) (ci := 5) (v := .int (nI mi)) (C := RX5) (T := TX5) (N := 14) hx hb hts hinX5 hown hK hP 0 rfl rfl 10 (by decide) hf63 (fun _ h9 => h9) rfl dX5_drops_67 ?_
  refine cr_v (wc := [(pu, .inr (3, [.ref u1, .ref u2, .ref u3, .ref u4, .ref u5, .int (nI pn)])), (u1, .inl (cI, 100, .inl (nA PK))), (u2, .inl (cI, 100, .inl (nA PL))), (u3, .inl (cI, 100, .inl (nA PS))), (u4, .inl (cI, 100, .inl (nA PN))), (u5, .inl (cI, 100, .inl (nA PM)))]) (w1 := [(pu, .inr (3, [.ref u1, .ref u2, .ref u3, .ref u4, .ref u5, .int (nI (pn + 1))])), (u1, .inl (cI, 100, .inl (nA (uN PK pn ki)))), (u2, .inl (cI, 100, .inl (nA (uN PL pn la)))), (u3, .inl (cI, 100, .inl (nA (uN PS pn si)))), (u4, .inl (cI, 100, .inl (nA (uN PN pn mn)))), (u5, .inl (cI, 100, .inl (nA (uN PM pn mi))))]) (ws2 := [(h0, .inr (5, [.ref ai, .ref pu, .ref pa, .ref ga, .ref sc, .ref hi, .ref gr, .int (nI me), .int (nI dp), .int (bI up), .int (nI mi), .int (nI ru), .long wp, .long wl])), (ai, .inr (0, [.ref a1])), (a1, .inl (cI, 600, .inl (nA (uN C (30 * ki + 3 * la + (si - 1)) (C (30 * ki + 3 * la + (si - 1)) + mn))))), (pu, .inr (3, [.ref u1, .ref u2, .ref u3, .ref u4, .ref u5, .int (nI (pn + 1))])), (u1, .inl (cI, 100, .inl (nA (uN PK pn ki)))), (u2, .inl (cI, 100, .inl (nA (uN PL pn la)))), (u3, .inl (cI, 100, .inl (nA (uN PS pn si)))), (u4, .inl (cI, 100, .inl (nA (uN PN pn mn)))), (u5, .inl (cI, 100, .inl (nA (uN PM pn mi))))]) hP hD hS hA [3, 4, 5, 6, 7, 8] rfl rfl rfl (va_runV (As := [.int (nI ki), .int (nI la), .int (nI si), .int (nI mn), .int (nI mi)]) (rest := []) ⟨hx, hb, hml, hown, hts⟩ (c_X3_keep l D cI cJ cZ pu u1 u2 u3 u4 u5 PK PL PS PN PM pn ki la si mn mi (by omega) H.size) (cwV 5 hts gX5_drops_X3_keep rfl rfl rfl (by decide +kernel) ⟨Nat.le_of_ble_eq_true rfl, Nat.le_of_ble_eq_true rfl⟩) (pvV hT hP hD [3, 4, 5, 6, 7, 8] rfl rfl 0 rfl rfl) rfl rfl hl.1 rfl (lv_room (Nat.le_of_ble_eq_true rfl)) dX5_drops_70 ⟨Nat.zero_le _, Nat.zero_le _⟩) (fun H locs hP hD hS => ?_)
  refine lv_aload_n hx hb dX5_drops_73 rfl (lv_at hl 0 rfl) ?_
  refine lv_dup hx hb dX5_drops_74 rfl ?_
  refine va_get (D := D) (ci := 5) (v := .long wp) (C := RX5) (T := TX5) (N := 14) hx hb hts hinX5 hown hK hP 0 rfl rfl 12 (by decide) hf69 (fun _ h9 => h9) rfl dX5_drops_75 ?_
  refine lv_iload_n hx hb dX5_drops_78 rfl (lv_at hl 3 rfl) ?_
  refine lv_iload hx hb dX5_drops_79 (lv_at hl 4 rfl) ?_
  refine cr_l (wc := []) (w1 := []) (ws2 := [(h0, .inr (5, [.ref ai, .ref pu, .ref pa, .ref ga, .ref sc, .ref hi, .ref gr, .int (nI me), .int (nI dp), .int (bI up), .int (nI mi), .int (nI ru), .long wp, .long wl])), (ai, .inr (0, [.ref a1])), (a1, .inl (cI, 600, .inl (nA (uN C (30 * ki + 3 * la + (si - 1)) (C (30 * ki + 3 * la + (si - 1)) + mn))))), (pu, .inr (3, [.ref u1, .ref u2, .ref u3, .ref u4, .ref u5, .int (nI (pn + 1))])), (u1, .inl (cI, 100, .inl (nA (uN PK pn ki)))), (u2, .inl (cI, 100, .inl (nA (uN PL pn la)))), (u3, .inl (cI, 100, .inl (nA (uN PS pn si)))), (u4, .inl (cI, 100, .inl (nA (uN PN pn mn)))), (u5, .inl (cI, 100, .inl (nA (uN PM pn mi))))]) hP hD hS hA [] rfl rfl rfl (va_runS (As := [.int (nI si), .int (nI mn)]) (rest := [.long wp, .ref h0]) ⟨hx, hb, hml, hown, hts⟩ (c_X5_waterOf l D cI cJ cZ si mn H.size) (va_cwS 2 hts gX5_drops_X5_waterOf rfl rfl rfl (by decide +kernel) ⟨Nat.le_of_ble_eq_true rfl, Nat.le_of_ble_eq_true rfl⟩) (pvS hT hP hD [] rfl rfl) rfl rfl hl.1 rfl (lv_room (Nat.le_of_ble_eq_true rfl)) dX5_drops_81 ⟨Nat.zero_le _, Nat.zero_le _⟩) (fun H locs hP hD hS => ?_)
  refine lv_ladd hx hb dX5_drops_84 ?_
  refine va_put (D := D) (ci := 5) (v := .long (wp + (wtr si mn))) (ty := .long) (C := RX5) (T := TX5) (N := 14) hx hb hts hinX5 tyX5 tyX5_ok nmX5 hown hK hP hD hS 0 rfl rfl 12 (by decide) hf69 (fun _ h9 => h9) rfl (by decide +kernel) rfl rfl (Nat.le_of_ble_eq_true rfl) dX5_drops_85 (fun H locs hP hD hS => ?_)
  have hP : va_P D vwCl [(h0, .inr (5, [.ref ai, .ref pu, .ref pa, .ref ga, .ref sc, .ref hi, .ref gr, .int (nI me), .int (nI dp), .int (bI up), .int (nI mi), .int (nI ru), .long (wp + (wtr si mn)), .long wl])), (ai, .inr (0, [.ref a1])), (a1, .inl (cI, 600, .inl (nA (uN C (30 * ki + 3 * la + (si - 1)) (C (30 * ki + 3 * la + (si - 1)) + mn))))), (pu, .inr (3, [.ref u1, .ref u2, .ref u3, .ref u4, .ref u5, .int (nI (pn + 1))])), (u1, .inl (cI, 100, .inl (nA (uN PK pn ki)))), (u2, .inl (cI, 100, .inl (nA (uN PL pn la)))), (u3, .inl (cI, 100, .inl (nA (uN PS pn si)))), (u4, .inl (cI, 100, .inl (nA (uN PN pn mn)))), (u5, .inl (cI, 100, .inl (nA (uN PM pn mi))))] H := hP
  have hD : va_D A [(h0, .inr (5, [.ref ai, .ref pu, .ref pa, .ref ga, .ref sc, .ref hi, .ref gr, .int (nI me), .int (nI dp), .int (bI up), .int (nI mi), .int (nI ru), .long (wp + (wtr si mn)), .long wl])), (ai, .inr (0, [.ref a1])), (a1, .inl (cI, 600, .inl (nA (uN C (30 * ki + 3 * la + (si - 1)) (C (30 * ki + 3 * la + (si - 1)) + mn))))), (pu, .inr (3, [.ref u1, .ref u2, .ref u3, .ref u4, .ref u5, .int (nI (pn + 1))])), (u1, .inl (cI, 100, .inl (nA (uN PK pn ki)))), (u2, .inl (cI, 100, .inl (nA (uN PL pn la)))), (u3, .inl (cI, 100, .inl (nA (uN PS pn si)))), (u4, .inl (cI, 100, .inl (nA (uN PN pn mn)))), (u5, .inl (cI, 100, .inl (nA (uN PM pn mi))))] := hD
  refine lv_aload_n hx hb dX5_drops_88 rfl (lv_at hl 0 rfl) ?_
  refine va_get (D := D) (ci := 5) (v := .ref ai) (C := RX5) (T := TX5) (N := 14) hx hb hts hinX5 hown hK hP 0 rfl rfl 0 (by decide) hf12 (fun _ h9 => h9) rfl dX5_drops_89 ?_
  refine lv_iload_n hx hb dX5_drops_92 rfl (lv_at hl 1 rfl) ?_
  refine lv_iload_n hx hb dX5_drops_93 rfl (lv_at hl 2 rfl) ?_
  refine lv_iload_n hx hb dX5_drops_94 rfl (lv_at hl 3 rfl) ?_
  refine cr_i (wc := [(ai, .inr (0, [.ref a1])), (a1, .inl (cI, 600, .inl (nA (uN C (30 * ki + 3 * la + (si - 1)) (C (30 * ki + 3 * la + (si - 1)) + mn)))))]) (w1 := [(ai, .inr (0, [.ref a1])), (a1, .inl (cI, 600, .inl (nA (uN C (30 * ki + 3 * la + (si - 1)) (C (30 * ki + 3 * la + (si - 1)) + mn)))))]) (ws2 := [(h0, .inr (5, [.ref ai, .ref pu, .ref pa, .ref ga, .ref sc, .ref hi, .ref gr, .int (nI me), .int (nI dp), .int (bI up), .int (nI mi), .int (nI ru), .long (wp + (wtr si mn)), .long wl])), (ai, .inr (0, [.ref a1])), (a1, .inl (cI, 600, .inl (nA (uN C (30 * ki + 3 * la + (si - 1)) (C (30 * ki + 3 * la + (si - 1)) + mn))))), (pu, .inr (3, [.ref u1, .ref u2, .ref u3, .ref u4, .ref u5, .int (nI (pn + 1))])), (u1, .inl (cI, 100, .inl (nA (uN PK pn ki)))), (u2, .inl (cI, 100, .inl (nA (uN PL pn la)))), (u3, .inl (cI, 100, .inl (nA (uN PS pn si)))), (u4, .inl (cI, 100, .inl (nA (uN PN pn mn)))), (u5, .inl (cI, 100, .inl (nA (uN PM pn mi))))]) hP hD hS hA [1, 2] rfl rfl rfl (va_runV (As := [.int (nI ki), .int (nI la), .int (nI si)]) (rest := []) ⟨hx, hb, hml, hown, hts⟩ (c_X0_manyAt_in l D cI cJ cZ ai a1 (uN C (30 * ki + 3 * la + (si - 1)) (C (30 * ki + 3 * la + (si - 1)) + mn)) ki la si (by omega) (by omega) (by omega) (by omega) H.size) (cwV 3 hts gX5_drops_X0_manyAt rfl rfl rfl (by decide +kernel) ⟨Nat.le_of_ble_eq_true rfl, Nat.le_of_ble_eq_true rfl⟩) (pvV hT hP hD [1, 2] rfl rfl 0 rfl rfl) rfl rfl hl.1 rfl (lv_room (Nat.le_of_ble_eq_true rfl)) dX5_drops_95 ⟨Nat.zero_le _, Nat.zero_le _⟩) (fun H locs hP hD hS => ?_)
  have hwe : ([(h0, .inr (5, [.ref ai, .ref pu, .ref pa, .ref ga, .ref sc, .ref hi, .ref gr, .int (nI me), .int (nI dp), .int (bI up), .int (nI mi), .int (nI ru), .long (wp + wtr si mn), .long wl])), (ai, .inr (0, [.ref a1])), (a1, .inl (cI, 600, .inl (nA (uN C (30 * ki + 3 * la + (si - 1)) (C (30 * ki + 3 * la + (si - 1)) + mn))))), (pu, .inr (3, [.ref u1, .ref u2, .ref u3, .ref u4, .ref u5, .int (nI (pn + 1))])), (u1, .inl (cI, 100, .inl (nA (uN PK pn ki)))), (u2, .inl (cI, 100, .inl (nA (uN PL pn la)))), (u3, .inl (cI, 100, .inl (nA (uN PS pn si)))), (u4, .inl (cI, 100, .inl (nA (uN PN pn mn)))), (u5, .inl (cI, 100, .inl (nA (uN PM pn mi))))] : va_W) = [(h0, .inr (5, [.ref ai, .ref pu, .ref pa, .ref ga, .ref sc, .ref hi, .ref gr, .int (nI me), .int (nI dp), .int (bI up), .int (nI mi), .int (nI ru), .long (wp + (wtr si mn)), .long wl])), (ai, .inr (0, [.ref a1])), (a1, .inl (cI, 600, .inl (nA (uN C (30 * ki + 3 * la + (si - 1)) (C (30 * ki + 3 * la + (si - 1)) + mn))))), (pu, .inr (3, [.ref u1, .ref u2, .ref u3, .ref u4, .ref u5, .int (nI (pn + 1))])), (u1, .inl (cI, 100, .inl (nA (uN PK pn ki)))), (u2, .inl (cI, 100, .inl (nA (uN PL pn la)))), (u3, .inl (cI, 100, .inl (nA (uN PS pn si)))), (u4, .inl (cI, 100, .inl (nA (uN PN pn mn)))), (u5, .inl (cI, 100, .inl (nA (uN PM pn mi))))] := rfl
  have hP : va_P D vwCl [(h0, .inr (5, [.ref ai, .ref pu, .ref pa, .ref ga, .ref sc, .ref hi, .ref gr, .int (nI me), .int (nI dp), .int (bI up), .int (nI mi), .int (nI ru), .long (wp + wtr si mn), .long wl])), (ai, .inr (0, [.ref a1])), (a1, .inl (cI, 600, .inl (nA (uN C (30 * ki + 3 * la + (si - 1)) (C (30 * ki + 3 * la + (si - 1)) + mn))))), (pu, .inr (3, [.ref u1, .ref u2, .ref u3, .ref u4, .ref u5, .int (nI (pn + 1))])), (u1, .inl (cI, 100, .inl (nA (uN PK pn ki)))), (u2, .inl (cI, 100, .inl (nA (uN PL pn la)))), (u3, .inl (cI, 100, .inl (nA (uN PS pn si)))), (u4, .inl (cI, 100, .inl (nA (uN PN pn mn)))), (u5, .inl (cI, 100, .inl (nA (uN PM pn mi))))] H := by rw [hwe]; exact hP
  have hD : va_D A [(h0, .inr (5, [.ref ai, .ref pu, .ref pa, .ref ga, .ref sc, .ref hi, .ref gr, .int (nI me), .int (nI dp), .int (bI up), .int (nI mi), .int (nI ru), .long (wp + wtr si mn), .long wl])), (ai, .inr (0, [.ref a1])), (a1, .inl (cI, 600, .inl (nA (uN C (30 * ki + 3 * la + (si - 1)) (C (30 * ki + 3 * la + (si - 1)) + mn))))), (pu, .inr (3, [.ref u1, .ref u2, .ref u3, .ref u4, .ref u5, .int (nI (pn + 1))])), (u1, .inl (cI, 100, .inl (nA (uN PK pn ki)))), (u2, .inl (cI, 100, .inl (nA (uN PL pn la)))), (u3, .inl (cI, 100, .inl (nA (uN PS pn si)))), (u4, .inl (cI, 100, .inl (nA (uN PN pn mn)))), (u5, .inl (cI, 100, .inl (nA (uN PM pn mi))))] := by rw [hwe]; exact hD
  exact fin_i hx hb hr hlocks hP hD hS (congrArg nI uN_s) dX5_drops_98
set_option maxHeartbeats 4000000 in
set_option maxRecDepth 100000 in
theorem c_X5_melt (l : Launch) (D : va_G) (cI cJ cZ : ClassId) (h0 : Nat) (ai : Nat) (pu : Nat) (pa : Nat) (ga : Nat) (sc : Nat) (hi : Nat) (gr : Nat) (me : Nat) (dp : Nat) (up : Bool) (mi : Nat) (ru : Nat) (wp : Int64) (wl : Int64) (la : Nat) (hla : la < 10) (sz : Nat) : Met l yX5_melt wsX5_melt ({ frames := 1, cells := 0, slots := 0, locals := 20 } : Room) (va_Pc [.ref h0, .int (nI la)] (mPre D cI cJ cZ [(h0, .inr (5, [.ref ai, .ref pu, .ref pa, .ref ga, .ref sc, .ref hi, .ref gr, .int (nI me), .int (nI dp), .int (bI up), .int (nI mi), .int (nI ru), .long wp, .long wl]))] sz)) (Qi9 D (va_A [(h0, .inr (5, [.ref ai, .ref pu, .ref pa, .ref ga, .ref sc, .ref hi, .ref gr, .int (nI me), .int (nI dp), .int (bI up), .int (nI mi), .int (nI ru), .long wp, .long wl]))] sz) [(h0, .inr (5, [.ref ai, .ref pu, .ref pa, .ref ga, .ref sc, .ref hi, .ref gr, .int (nI la), .int (nI dp), .int (bI up), .int (nI mi), .int (nI ru), .long wp, .long wl]))] (nI me)) 0 0 (va_A [(h0, .inr (5, [.ref ai, .ref pu, .ref pa, .ref ga, .ref sc, .ref hi, .ref gr, .int (nI me), .int (nI dp), .int (bI up), .int (nI mi), .int (nI ru), .long wp, .long wl]))] sz) := by
  refine Met.ofW (cc := cX5_melt) (maxL := 3) (ret := (some .int)) (by decide) rfl ?_
  intro p e s m args below meth c s₁ B hml hv
  obtain ⟨hargs, hsz, hP, hT, hD0⟩ := hv
  have hx := B.exec
  have hb := B.bytes
  have hr := B.returns
  have hts := atoms_spec (ws := wsX5_melt) B.pre
  have hown : s.vm.findClass RX5 = some m.cls := findClass_of_methodNamed B.named
  have hlocks := B.notSynchronized
  subst hsz
  have hK := hT.1
  have hD := hD0.self (sz := s.heap.size)
  generalize hAe : va_A [(h0, .inr (5, [.ref ai, .ref pu, .ref pa, .ref ga, .ref sc, .ref hi, .ref gr, .int (nI me), .int (nI dp), .int (bI up), .int (nI mi), .int (nI ru), .long wp, .long wl]))] s.heap.size = A at hD ⊢
  have hA : ∀ q : Nat, s.heap.size ≤ q → A q := fun q h => by rw [← hAe]; exact Or.inr h
  have hS : va_S A s.heap s.heap [] := va_S.rf
  obtain ⟨H, hHe⟩ : ∃ H : Heap, H = s.heap := ⟨_, rfl⟩
  have hS : va_S A s.heap H [] := by rw [hHe]; exact va_S.rf
  rw [← hHe] at hP
  suffices K0 : W p l e (headSpec wsX5_melt ({ frames := 1, cells := 0, slots := 0, locals := 20 } : Room)).room s m args below meth c H [] 0 0 (MQ below (Qi9 D A [(h0, .inr (5, [.ref ai, .ref pu, .ref pa, .ref ga, .ref sc, .ref hi, .ref gr, .int (nI la), .int (nI dp), .int (bI up), .int (nI mi), .int (nI ru), .long wp, .long wl]))] (nI me)) args s 0 0 A) (entryFrame m args 3) by rw [hHe] at K0; exact K0
  refine W.eq (g2 := entryFrame m ([.ref h0, .int (nI la)] : List Value).toArray 3) (by rw [hargs]) ?_
  have hl := lv_entry ([.ref h0, .int (nI la)]) (n := 3) (Nat.le_of_ble_eq_true rfl)
  rw [lg_entry_eq]
  generalize (lg_sl ([.ref h0, .int (nI la)]) ++ List.replicate (3 - (lg_sl ([.ref h0, .int (nI la)])).length) Slot.unset).toArray = ls at hl ⊢
  have hl : lv_has ls 3 [(0, .ref h0), (1, .int (nI la))] := hl
  generalize ([] : List Loc) = locs at hS ⊢
  have hinX5 : ∀ w ∈ wsX50, w ∈ wsX5_melt := by decide +kernel
  have hf52 := hts (.fieldLink RX5 52 "Brightband" "meltingLayer" "I") (by decide +kernel)
  refine lv_iload_n hx hb dX5_melt_0 rfl (lv_at hl 1 rfl) ?_
  refine cr_v (wc := []) (w1 := []) (ws2 := [(h0, .inr (5, [.ref ai, .ref pu, .ref pa, .ref ga, .ref sc, .ref hi, .ref gr, .int (nI me), .int (nI dp), .int (bI up), .int (nI mi), .int (nI ru), .long wp, .long wl]))]) hP hD hS hA [] rfl rfl rfl (va_runS (As := [.int (nI la)]) (rest := []) ⟨hx, hb, hml, hown, hts⟩ (c_X5_requireLayer l D cI cJ cZ la (by omega) H.size) (va_cwS 1 hts gX5_melt_X5_requireLayer rfl rfl rfl (by decide +kernel) ⟨Nat.le_of_ble_eq_true rfl, Nat.le_of_ble_eq_true rfl⟩) (pvS hT hP hD [] rfl rfl) rfl rfl hl.1 rfl (lv_room (Nat.le_of_ble_eq_true rfl)) dX5_melt_1 ⟨Nat.zero_le _, Nat.zero_le _⟩) (fun H locs hP hD hS => ?_)
  refine lv_aload_n hx hb dX5_melt_4 rfl (lv_at hl 0 rfl) ?_
  refine va_get (D := D) (ci := 5) (v := .int (nI me)) (C := RX5) (T := TX5) (N := 14) hx hb hts hinX5 hown hK hP 0 rfl rfl 7 (by decide) hf52 (fun _ h9 => h9) rfl dX5_melt_5 ?_
  refine lv_istore_n (lv' := [(2, .int (nI me)), (0, .ref h0), (1, .int (nI la))]) hx hb dX5_melt_8 rfl hl (by decide) rfl (fun ls hl => ?_)
  refine lv_aload_n hx hb dX5_melt_9 rfl (lv_at hl 1 rfl) ?_
  refine lv_iload_n hx hb dX5_melt_10 rfl (lv_at hl 2 rfl) ?_
  refine va_put (D := D) (ci := 5) (v := .int (nI la)) (ty := .int) (C := RX5) (T := TX5) (N := 14) hx hb hts hinX5 tyX5 tyX5_ok nmX5 hown hK hP hD hS 0 rfl rfl 7 (by decide) hf52 (fun _ h9 => h9) rfl (by decide +kernel) rfl rfl (Nat.le_of_ble_eq_true rfl) dX5_melt_11 (fun H locs hP hD hS => ?_)
  have hP : va_P D vwCl [(h0, .inr (5, [.ref ai, .ref pu, .ref pa, .ref ga, .ref sc, .ref hi, .ref gr, .int (nI la), .int (nI dp), .int (bI up), .int (nI mi), .int (nI ru), .long wp, .long wl]))] H := hP
  have hD : va_D A [(h0, .inr (5, [.ref ai, .ref pu, .ref pa, .ref ga, .ref sc, .ref hi, .ref gr, .int (nI la), .int (nI dp), .int (bI up), .int (nI mi), .int (nI ru), .long wp, .long wl]))] := hD
  refine lv_iload_n hx hb dX5_melt_14 rfl (lv_at hl 0 rfl) ?_
  exact fin_i hx hb hr hlocks hP hD hS (rfl) dX5_melt_15
set_option maxHeartbeats 4000000 in
set_option maxRecDepth 100000 in
theorem c_X5_hill (l : Launch) (D : va_G) (cI cJ cZ : ClassId) (h0 : Nat) (ai : Nat) (pu : Nat) (pa : Nat) (ga : Nat) (sc : Nat) (hi : Nat) (gr : Nat) (me : Nat) (dp : Nat) (up : Bool) (mi : Nat) (ru : Nat) (wp : Int64) (wl : Int64) (HI : Nat → Nat) (ki : Nat) (hh : Nat) (hki : ki < 20) (hhh : hh ≤ 9) (sz : Nat) : Met l yX5_hill wsX5_hill ({ frames := 1, cells := 0, slots := 0, locals := 22 } : Room) (va_Pc [.ref h0, .int (nI ki), .int (nI hh)] (mPre D cI cJ cZ [(h0, .inr (5, [.ref ai, .ref pu, .ref pa, .ref ga, .ref sc, .ref hi, .ref gr, .int (nI me), .int (nI dp), .int (bI up), .int (nI mi), .int (nI ru), .long wp, .long wl])), (hi, .inl (cI, 20, .inl (nA HI)))] sz)) (Qi9 D (va_A [(h0, .inr (5, [.ref ai, .ref pu, .ref pa, .ref ga, .ref sc, .ref hi, .ref gr, .int (nI me), .int (nI dp), .int (bI up), .int (nI mi), .int (nI ru), .long wp, .long wl])), (hi, .inl (cI, 20, .inl (nA HI)))] sz) [(h0, .inr (5, [.ref ai, .ref pu, .ref pa, .ref ga, .ref sc, .ref hi, .ref gr, .int (nI me), .int (nI dp), .int (bI up), .int (nI mi), .int (nI ru), .long wp, .long wl])), (hi, .inl (cI, 20, .inl (nA (uN HI ki hh))))] (nI (HI ki))) 0 0 (va_A [(h0, .inr (5, [.ref ai, .ref pu, .ref pa, .ref ga, .ref sc, .ref hi, .ref gr, .int (nI me), .int (nI dp), .int (bI up), .int (nI mi), .int (nI ru), .long wp, .long wl])), (hi, .inl (cI, 20, .inl (nA HI)))] sz) := by
  refine Met.ofW (cc := cX5_hill) (maxL := 4) (ret := (some .int)) (by decide) rfl ?_
  intro p e s m args below meth c s₁ B hml hv
  obtain ⟨hargs, hsz, hP, hT, hD0⟩ := hv
  have hx := B.exec
  have hb := B.bytes
  have hr := B.returns
  have hts := atoms_spec (ws := wsX5_hill) B.pre
  have hown : s.vm.findClass RX5 = some m.cls := findClass_of_methodNamed B.named
  have hlocks := B.notSynchronized
  subst hsz
  have hK := hT.1
  have hD := hD0.self (sz := s.heap.size)
  generalize hAe : va_A [(h0, .inr (5, [.ref ai, .ref pu, .ref pa, .ref ga, .ref sc, .ref hi, .ref gr, .int (nI me), .int (nI dp), .int (bI up), .int (nI mi), .int (nI ru), .long wp, .long wl])), (hi, .inl (cI, 20, .inl (nA HI)))] s.heap.size = A at hD ⊢
  have hA : ∀ q : Nat, s.heap.size ≤ q → A q := fun q h => by rw [← hAe]; exact Or.inr h
  have hS : va_S A s.heap s.heap [] := va_S.rf
  obtain ⟨H, hHe⟩ : ∃ H : Heap, H = s.heap := ⟨_, rfl⟩
  have hS : va_S A s.heap H [] := by rw [hHe]; exact va_S.rf
  rw [← hHe] at hP
  suffices K0 : W p l e (headSpec wsX5_hill ({ frames := 1, cells := 0, slots := 0, locals := 22 } : Room)).room s m args below meth c H [] 0 0 (MQ below (Qi9 D A [(h0, .inr (5, [.ref ai, .ref pu, .ref pa, .ref ga, .ref sc, .ref hi, .ref gr, .int (nI me), .int (nI dp), .int (bI up), .int (nI mi), .int (nI ru), .long wp, .long wl])), (hi, .inl (cI, 20, .inl (nA (uN HI ki hh))))] (nI (HI ki))) args s 0 0 A) (entryFrame m args 4) by rw [hHe] at K0; exact K0
  refine W.eq (g2 := entryFrame m ([.ref h0, .int (nI ki), .int (nI hh)] : List Value).toArray 4) (by rw [hargs]) ?_
  have hl := lv_entry ([.ref h0, .int (nI ki), .int (nI hh)]) (n := 4) (Nat.le_of_ble_eq_true rfl)
  rw [lg_entry_eq]
  generalize (lg_sl ([.ref h0, .int (nI ki), .int (nI hh)]) ++ List.replicate (4 - (lg_sl ([.ref h0, .int (nI ki), .int (nI hh)])).length) Slot.unset).toArray = ls at hl ⊢
  have hl : lv_has ls 4 [(0, .ref h0), (1, .int (nI ki)), (2, .int (nI hh))] := hl
  generalize ([] : List Loc) = locs at hS ⊢
  have hinX5 : ∀ w ∈ wsX50, w ∈ wsX5_hill := by decide +kernel
  have hf44 := hts (.fieldLink RX5 44 "Brightband" "hills" "[I") (by decide +kernel)
  refine lv_iload_n hx hb dX5_hill_0 rfl (lv_at hl 1 rfl) ?_
  refine cr_v (wc := []) (w1 := []) (ws2 := [(h0, .inr (5, [.ref ai, .ref pu, .ref pa, .ref ga, .ref sc, .ref hi, .ref gr, .int (nI me), .int (nI dp), .int (bI up), .int (nI mi), .int (nI ru), .long wp, .long wl])), (hi, .inl (cI, 20, .inl (nA HI)))]) hP hD hS hA [] rfl rfl rfl (va_runS (As := [.int (nI ki)]) (rest := []) ⟨hx, hb, hml, hown, hts⟩ (c_X5_requireKilometre l D cI cJ cZ ki (by omega) H.size) (va_cwS 1 hts gX5_hill_X5_requireKilometre rfl rfl rfl (by decide +kernel) ⟨Nat.le_of_ble_eq_true rfl, Nat.le_of_ble_eq_true rfl⟩) (pvS hT hP hD [] rfl rfl) rfl rfl hl.1 rfl (lv_room (Nat.le_of_ble_eq_true rfl)) dX5_hill_1 ⟨Nat.zero_le _, Nat.zero_le _⟩) (fun H locs hP hD hS => ?_)
  refine lv_iload_n hx hb dX5_hill_4 rfl (lv_at hl 2 rfl) ?_
  refine lv_iconst (v := nI 0) hx hb dX5_hill_5 (by decide) ?_
  refine lv_bipush (v := nI 9) hx hb dX5_hill_6 (by decide) ?_
  refine cr_v (wc := []) (w1 := []) (ws2 := [(h0, .inr (5, [.ref ai, .ref pu, .ref pa, .ref ga, .ref sc, .ref hi, .ref gr, .int (nI me), .int (nI dp), .int (bI up), .int (nI mi), .int (nI ru), .long wp, .long wl])), (hi, .inl (cI, 20, .inl (nA HI)))]) hP hD hS hA [] rfl rfl rfl (va_runS (As := [.int (nI hh), .int (nI 0), .int (nI 9)]) (rest := []) ⟨hx, hb, hml, hown, hts⟩ (c_X5_requireRange l D cI cJ cZ hh 0 9 (by omega) (by omega) (by omega) H.size) (va_cwS 3 hts gX5_hill_X5_requireRange rfl rfl rfl (by decide +kernel) ⟨Nat.le_of_ble_eq_true rfl, Nat.le_of_ble_eq_true rfl⟩) (pvS hT hP hD [] rfl rfl) rfl rfl hl.1 rfl (lv_room (Nat.le_of_ble_eq_true rfl)) dX5_hill_8 ⟨Nat.zero_le _, Nat.zero_le _⟩) (fun H locs hP hD hS => ?_)
  refine lv_aload_n hx hb dX5_hill_11 rfl (lv_at hl 0 rfl) ?_
  refine va_get (D := D) (ci := 5) (v := .ref hi) (C := RX5) (T := TX5) (N := 14) hx hb hts hinX5 hown hK hP 0 rfl rfl 5 (by decide) hf44 (fun _ h9 => h9) rfl dX5_hill_12 ?_
  refine lv_iload_n hx hb dX5_hill_15 rfl (lv_at hl 1 rfl) ?_
  refine ald_N hx hb hK hP 1 0 rfl rfl ki rfl (by omega) (Nat.le_of_ble_eq_true rfl) dX5_hill_16 ?_
  refine lv_istore_n (lv' := [(3, .int (nI (HI ki))), (0, .ref h0), (1, .int (nI ki)), (2, .int (nI hh))]) hx hb dX5_hill_17 rfl hl (by decide) rfl (fun ls hl => ?_)
  refine lv_aload_n hx hb dX5_hill_18 rfl (lv_at hl 1 rfl) ?_
  refine va_get (D := D) (ci := 5) (v := .ref hi) (C := RX5) (T := TX5) (N := 14) hx hb hts hinX5 hown hK hP 0 rfl rfl 5 (by decide) hf44 (fun _ h9 => h9) rfl dX5_hill_19 ?_
  refine lv_iload_n hx hb dX5_hill_22 rfl (lv_at hl 2 rfl) ?_
  refine lv_iload_n hx hb dX5_hill_23 rfl (lv_at hl 3 rfl) ?_
  refine ast_N (x := hh) hx hb hK hP hD hS 1 0 rfl rfl ki rfl (by omega) (Nat.le_of_ble_eq_true rfl) dX5_hill_24 (fun H locs hP hD hS => ?_)
  have hP : va_P D vwCl [(h0, .inr (5, [.ref ai, .ref pu, .ref pa, .ref ga, .ref sc, .ref hi, .ref gr, .int (nI me), .int (nI dp), .int (bI up), .int (nI mi), .int (nI ru), .long wp, .long wl])), (hi, .inl (cI, 20, .inl (nA (uN HI ki hh))))] H := hP
  have hD : va_D A [(h0, .inr (5, [.ref ai, .ref pu, .ref pa, .ref ga, .ref sc, .ref hi, .ref gr, .int (nI me), .int (nI dp), .int (bI up), .int (nI mi), .int (nI ru), .long wp, .long wl])), (hi, .inl (cI, 20, .inl (nA (uN HI ki hh))))] := hD
  refine lv_iload_n hx hb dX5_hill_25 rfl (lv_at hl 0 rfl) ?_
  exact fin_i hx hb hr hlocks hP hD hS (rfl) dX5_hill_26
set_option maxHeartbeats 4000000 in
set_option maxRecDepth 100000 in
theorem c_X5_drift (l : Launch) (D : va_G) (cI cJ cZ : ClassId) (h0 : Nat) (ai : Nat) (pu : Nat) (pa : Nat) (ga : Nat) (sc : Nat) (hi : Nat) (gr : Nat) (me : Nat) (dp : Nat) (up : Bool) (mi : Nat) (ru : Nat) (wp : Int64) (wl : Int64) (pp : Nat) (bb : Bool) (hpp : pp ≤ 60) (sz : Nat) : Met l yX5_drift wsX5_drift ({ frames := 1, cells := 0, slots := 0, locals := 22 } : Room) (va_Pc [.ref h0, .int (nI pp), .int (bI bb)] (mPre D cI cJ cZ [(h0, .inr (5, [.ref ai, .ref pu, .ref pa, .ref ga, .ref sc, .ref hi, .ref gr, .int (nI me), .int (nI dp), .int (bI up), .int (nI mi), .int (nI ru), .long wp, .long wl]))] sz)) (Qi9 D (va_A [(h0, .inr (5, [.ref ai, .ref pu, .ref pa, .ref ga, .ref sc, .ref hi, .ref gr, .int (nI me), .int (nI dp), .int (bI up), .int (nI mi), .int (nI ru), .long wp, .long wl]))] sz) [(h0, .inr (5, [.ref ai, .ref pu, .ref pa, .ref ga, .ref sc, .ref hi, .ref gr, .int (nI me), .int (nI pp), .int (bI bb), .int (nI mi), .int (nI ru), .long wp, .long wl]))] (nI dp)) 0 0 (va_A [(h0, .inr (5, [.ref ai, .ref pu, .ref pa, .ref ga, .ref sc, .ref hi, .ref gr, .int (nI me), .int (nI dp), .int (bI up), .int (nI mi), .int (nI ru), .long wp, .long wl]))] sz) := by
  refine Met.ofW (cc := cX5_drift) (maxL := 4) (ret := (some .int)) (by decide) rfl ?_
  intro p e s m args below meth c s₁ B hml hv
  obtain ⟨hargs, hsz, hP, hT, hD0⟩ := hv
  have hx := B.exec
  have hb := B.bytes
  have hr := B.returns
  have hts := atoms_spec (ws := wsX5_drift) B.pre
  have hown : s.vm.findClass RX5 = some m.cls := findClass_of_methodNamed B.named
  have hlocks := B.notSynchronized
  subst hsz
  have hK := hT.1
  have hD := hD0.self (sz := s.heap.size)
  generalize hAe : va_A [(h0, .inr (5, [.ref ai, .ref pu, .ref pa, .ref ga, .ref sc, .ref hi, .ref gr, .int (nI me), .int (nI dp), .int (bI up), .int (nI mi), .int (nI ru), .long wp, .long wl]))] s.heap.size = A at hD ⊢
  have hA : ∀ q : Nat, s.heap.size ≤ q → A q := fun q h => by rw [← hAe]; exact Or.inr h
  have hS : va_S A s.heap s.heap [] := va_S.rf
  obtain ⟨H, hHe⟩ : ∃ H : Heap, H = s.heap := ⟨_, rfl⟩
  have hS : va_S A s.heap H [] := by rw [hHe]; exact va_S.rf
  rw [← hHe] at hP
  suffices K0 : W p l e (headSpec wsX5_drift ({ frames := 1, cells := 0, slots := 0, locals := 22 } : Room)).room s m args below meth c H [] 0 0 (MQ below (Qi9 D A [(h0, .inr (5, [.ref ai, .ref pu, .ref pa, .ref ga, .ref sc, .ref hi, .ref gr, .int (nI me), .int (nI pp), .int (bI bb), .int (nI mi), .int (nI ru), .long wp, .long wl]))] (nI dp)) args s 0 0 A) (entryFrame m args 4) by rw [hHe] at K0; exact K0
  refine W.eq (g2 := entryFrame m ([.ref h0, .int (nI pp), .int (bI bb)] : List Value).toArray 4) (by rw [hargs]) ?_
  have hl := lv_entry ([.ref h0, .int (nI pp), .int (bI bb)]) (n := 4) (Nat.le_of_ble_eq_true rfl)
  rw [lg_entry_eq]
  generalize (lg_sl ([.ref h0, .int (nI pp), .int (bI bb)]) ++ List.replicate (4 - (lg_sl ([.ref h0, .int (nI pp), .int (bI bb)])).length) Slot.unset).toArray = ls at hl ⊢
  have hl : lv_has ls 4 [(0, .ref h0), (1, .int (nI pp)), (2, .int (bI bb))] := hl
  generalize ([] : List Loc) = locs at hS ⊢
  have hinX5 : ∀ w ∈ wsX50, w ∈ wsX5_drift := by decide +kernel
  have hf56 := hts (.fieldLink RX5 56 "Brightband" "driftPeriod" "I") (by decide +kernel)
  have hf59 := hts (.fieldLink RX5 59 "Brightband" "isDriftUp" "Z") (by decide +kernel)
  refine lv_iload_n hx hb dX5_drift_0 rfl (lv_at hl 1 rfl) ?_
  refine lv_iconst (v := nI 0) hx hb dX5_drift_1 (by decide) ?_
  refine lv_bipush (v := nI 60) hx hb dX5_drift_2 (by decide) ?_
  refine cr_v (wc := []) (w1 := []) (ws2 := [(h0, .inr (5, [.ref ai, .ref pu, .ref pa, .ref ga, .ref sc, .ref hi, .ref gr, .int (nI me), .int (nI dp), .int (bI up), .int (nI mi), .int (nI ru), .long wp, .long wl]))]) hP hD hS hA [] rfl rfl rfl (va_runS (As := [.int (nI pp), .int (nI 0), .int (nI 60)]) (rest := []) ⟨hx, hb, hml, hown, hts⟩ (c_X5_requireRange l D cI cJ cZ pp 0 60 (by omega) (by omega) (by omega) H.size) (va_cwS 3 hts gX5_drift_X5_requireRange rfl rfl rfl (by decide +kernel) ⟨Nat.le_of_ble_eq_true rfl, Nat.le_of_ble_eq_true rfl⟩) (pvS hT hP hD [] rfl rfl) rfl rfl hl.1 rfl (lv_room (Nat.le_of_ble_eq_true rfl)) dX5_drift_4 ⟨Nat.zero_le _, Nat.zero_le _⟩) (fun H locs hP hD hS => ?_)
  refine lv_aload_n hx hb dX5_drift_7 rfl (lv_at hl 0 rfl) ?_
  refine va_get (D := D) (ci := 5) (v := .int (nI dp)) (C := RX5) (T := TX5) (N := 14) hx hb hts hinX5 hown hK hP 0 rfl rfl 8 (by decide) hf56 (fun _ h9 => h9) rfl dX5_drift_8 ?_
  refine lv_istore_n (lv' := [(3, .int (nI dp)), (0, .ref h0), (1, .int (nI pp)), (2, .int (bI bb))]) hx hb dX5_drift_11 rfl hl (by decide) rfl (fun ls hl => ?_)
  refine lv_aload_n hx hb dX5_drift_12 rfl (lv_at hl 1 rfl) ?_
  refine lv_iload_n hx hb dX5_drift_13 rfl (lv_at hl 2 rfl) ?_
  refine va_put (D := D) (ci := 5) (v := .int (nI pp)) (ty := .int) (C := RX5) (T := TX5) (N := 14) hx hb hts hinX5 tyX5 tyX5_ok nmX5 hown hK hP hD hS 0 rfl rfl 8 (by decide) hf56 (fun _ h9 => h9) rfl (by decide +kernel) rfl rfl (Nat.le_of_ble_eq_true rfl) dX5_drift_14 (fun H locs hP hD hS => ?_)
  have hP : va_P D vwCl [(h0, .inr (5, [.ref ai, .ref pu, .ref pa, .ref ga, .ref sc, .ref hi, .ref gr, .int (nI me), .int (nI pp), .int (bI up), .int (nI mi), .int (nI ru), .long wp, .long wl]))] H := hP
  have hD : va_D A [(h0, .inr (5, [.ref ai, .ref pu, .ref pa, .ref ga, .ref sc, .ref hi, .ref gr, .int (nI me), .int (nI pp), .int (bI up), .int (nI mi), .int (nI ru), .long wp, .long wl]))] := hD
  refine lv_aload_n hx hb dX5_drift_17 rfl (lv_at hl 1 rfl) ?_
  refine lv_iload_n hx hb dX5_drift_18 rfl (lv_at hl 3 rfl) ?_
  refine va_put (D := D) (ci := 5) (v := .int (bI bb)) (ty := .boolean) (C := RX5) (T := TX5) (N := 14) hx hb hts hinX5 tyX5 tyX5_ok nmX5 hown hK hP hD hS 0 rfl rfl 9 (by decide) hf59 (fun _ h9 => h9) rfl (by decide +kernel) (bI_nar _) (bI_fit _) (Nat.le_of_ble_eq_true rfl) dX5_drift_19 (fun H locs hP hD hS => ?_)
  have hP : va_P D vwCl [(h0, .inr (5, [.ref ai, .ref pu, .ref pa, .ref ga, .ref sc, .ref hi, .ref gr, .int (nI me), .int (nI pp), .int (bI bb), .int (nI mi), .int (nI ru), .long wp, .long wl]))] H := hP
  have hD : va_D A [(h0, .inr (5, [.ref ai, .ref pu, .ref pa, .ref ga, .ref sc, .ref hi, .ref gr, .int (nI me), .int (nI pp), .int (bI bb), .int (nI mi), .int (nI ru), .long wp, .long wl]))] := hD
  refine lv_iload_n hx hb dX5_drift_22 rfl (lv_at hl 0 rfl) ?_
  exact fin_i hx hb hr hlocks hP hD hS (rfl) dX5_drift_23
set_option maxHeartbeats 4000000 in
set_option maxRecDepth 100000 in
theorem c_X5_gauge (l : Launch) (D : va_G) (cI cJ cZ : ClassId) (h0 : Nat) (ai : Nat) (pu : Nat) (pa : Nat) (ga : Nat) (sc : Nat) (hi : Nat) (gr : Nat) (me : Nat) (dp : Nat) (up : Bool) (mi : Nat) (ru : Nat) (wp : Int64) (wl : Int64) (g1 : Nat) (g2 : Nat) (g3 : Nat) (UP : Nat → Bool) (CL : Nat → Bool) (CO : Nat → Int64) (ki : Nat) (bb : Bool) (hki : ki < 20) (sz : Nat) : Met l yX5_gauge wsX5_gauge ({ frames := 2, cells := 0, slots := 0, locals := 42 } : Room) (va_Pc [.ref h0, .int (nI ki), .int (bI bb)] (mPre D cI cJ cZ [(h0, .inr (5, [.ref ai, .ref pu, .ref pa, .ref ga, .ref sc, .ref hi, .ref gr, .int (nI me), .int (nI dp), .int (bI up), .int (nI mi), .int (nI ru), .long wp, .long wl])), (ga, .inr (1, [.ref g1, .ref g2, .ref g3])), (g1, .inl (cZ, 20, .inl (bA UP))), (g2, .inl (cZ, 20, .inl (bA CL))), (g3, .inl (cJ, 20, .inr (.inl CO)))] sz)) (Qi9 D (va_A [(h0, .inr (5, [.ref ai, .ref pu, .ref pa, .ref ga, .ref sc, .ref hi, .ref gr, .int (nI me), .int (nI dp), .int (bI up), .int (nI mi), .int (nI ru), .long wp, .long wl])), (ga, .inr (1, [.ref g1, .ref g2, .ref g3])), (g1, .inl (cZ, 20, .inl (bA UP))), (g2, .inl (cZ, 20, .inl (bA CL))), (g3, .inl (cJ, 20, .inr (.inl CO)))] sz) [(h0, .inr (5, [.ref ai, .ref pu, .ref pa, .ref ga, .ref sc, .ref hi, .ref gr, .int (nI me), .int (nI dp), .int (bI up), .int (nI mi), .int (nI ru), .long wp, .long wl])), (ga, .inr (1, [.ref g1, .ref g2, .ref g3])), (g1, .inl (cZ, 20, .inl (bA (if UP ki = bb then UP else uN UP ki bb)))), (g2, .inl (cZ, 20, .inl (bA (if UP ki = bb then CL else uN CL ki false)))), (g3, .inl (cJ, 20, .inr (.inl (if UP ki = bb then CO else uN CO ki 0))))] (bI (UP ki))) 0 0 (va_A [(h0, .inr (5, [.ref ai, .ref pu, .ref pa, .ref ga, .ref sc, .ref hi, .ref gr, .int (nI me), .int (nI dp), .int (bI up), .int (nI mi), .int (nI ru), .long wp, .long wl])), (ga, .inr (1, [.ref g1, .ref g2, .ref g3])), (g1, .inl (cZ, 20, .inl (bA UP))), (g2, .inl (cZ, 20, .inl (bA CL))), (g3, .inl (cJ, 20, .inr (.inl CO)))] sz) := by
  refine Met.ofW (cc := cX5_gauge) (maxL := 4) (ret := (some .boolean)) (by decide) rfl ?_
  intro p e s m args below meth c s₁ B hml hv
  obtain ⟨hargs, hsz, hP, hT, hD0⟩ := hv
  have hx := B.exec
  have hb := B.bytes
  have hr := B.returns
  have hts := atoms_spec (ws := wsX5_gauge) B.pre
  have hown : s.vm.findClass RX5 = some m.cls := findClass_of_methodNamed B.named
  have hlocks := B.notSynchronized
  subst hsz
  have hK := hT.1
  have hD := hD0.self (sz := s.heap.size)
  generalize hAe : va_A [(h0, .inr (5, [.ref ai, .ref pu, .ref pa, .ref ga, .ref sc, .ref hi, .ref gr, .int (nI me), .int (nI dp), .int (bI up), .int (nI mi), .int (nI ru), .long wp, .long wl])), (ga, .inr (1, [.ref g1, .ref g2, .ref g3])), (g1, .inl (cZ, 20, .inl (bA UP))), (g2, .inl (cZ, 20, .inl (bA CL))), (g3, .inl (cJ, 20, .inr (.inl CO)))] s.heap.size = A at hD ⊢
  have hA : ∀ q : Nat, s.heap.size ≤ q → A q := fun q h => by rw [← hAe]; exact Or.inr h
  have hS : va_S A s.heap s.heap [] := va_S.rf
  obtain ⟨H, hHe⟩ : ∃ H : Heap, H = s.heap := ⟨_, rfl⟩
  have hS : va_S A s.heap H [] := by rw [hHe]; exact va_S.rf
  rw [← hHe] at hP
  suffices K0 : W p l e (headSpec wsX5_gauge ({ frames := 2, cells := 0, slots := 0, locals := 42 } : Room)).room s m args below meth c H [] 0 0 (MQ below (Qi9 D A [(h0, .inr (5, [.ref ai, .ref pu, .ref pa, .ref ga, .ref sc, .ref hi, .ref gr, .int (nI me), .int (nI dp), .int (bI up), .int (nI mi), .int (nI ru), .long wp, .long wl])), (ga, .inr (1, [.ref g1, .ref g2, .ref g3])), (g1, .inl (cZ, 20, .inl (bA (if UP ki = bb then UP else uN UP ki bb)))), (g2, .inl (cZ, 20, .inl (bA (if UP ki = bb then CL else uN CL ki false)))), (g3, .inl (cJ, 20, .inr (.inl (if UP ki = bb then CO else uN CO ki 0))))] (bI (UP ki))) args s 0 0 A) (entryFrame m args 4) by rw [hHe] at K0; exact K0
  refine W.eq (g2 := entryFrame m ([.ref h0, .int (nI ki), .int (bI bb)] : List Value).toArray 4) (by rw [hargs]) ?_
  have hl := lv_entry ([.ref h0, .int (nI ki), .int (bI bb)]) (n := 4) (Nat.le_of_ble_eq_true rfl)
  rw [lg_entry_eq]
  generalize (lg_sl ([.ref h0, .int (nI ki), .int (bI bb)]) ++ List.replicate (4 - (lg_sl ([.ref h0, .int (nI ki), .int (bI bb)])).length) Slot.unset).toArray = ls at hl ⊢
  have hl : lv_has ls 4 [(0, .ref h0), (1, .int (nI ki)), (2, .int (bI bb))] := hl
  generalize ([] : List Loc) = locs at hS ⊢
  have hinX5 : ∀ w ∈ wsX50, w ∈ wsX5_gauge := by decide +kernel
  have hf33 := hts (.fieldLink RX5 33 "Brightband" "gauges" "LBrightband$Gauges;") (by decide +kernel)
  refine lv_iload_n hx hb dX5_gauge_0 rfl (lv_at hl 1 rfl) ?_
  refine cr_v (wc := []) (w1 := []) (ws2 := [(h0, .inr (5, [.ref ai, .ref pu, .ref pa, .ref ga, .ref sc, .ref hi, .ref gr, .int (nI me), .int (nI dp), .int (bI up), .int (nI mi), .int (nI ru), .long wp, .long wl])), (ga, .inr (1, [.ref g1, .ref g2, .ref g3])), (g1, .inl (cZ, 20, .inl (bA UP))), (g2, .inl (cZ, 20, .inl (bA CL))), (g3, .inl (cJ, 20, .inr (.inl CO)))]) hP hD hS hA [] rfl rfl rfl (va_runS (As := [.int (nI ki)]) (rest := []) ⟨hx, hb, hml, hown, hts⟩ (c_X5_requireKilometre l D cI cJ cZ ki (by omega) H.size) (va_cwS 1 hts gX5_gauge_X5_requireKilometre rfl rfl rfl (by decide +kernel) ⟨Nat.le_of_ble_eq_true rfl, Nat.le_of_ble_eq_true rfl⟩) (pvS hT hP hD [] rfl rfl) rfl rfl hl.1 rfl (lv_room (Nat.le_of_ble_eq_true rfl)) dX5_gauge_1 ⟨Nat.zero_le _, Nat.zero_le _⟩) (fun H locs hP hD hS => ?_)
  refine lv_aload_n hx hb dX5_gauge_4 rfl (lv_at hl 0 rfl) ?_
  refine va_get (D := D) (ci := 5) (v := .ref ga) (C := RX5) (T := TX5) (N := 14) hx hb hts hinX5 hown hK hP 0 rfl rfl 3 (by decide) hf33 (fun _ h9 => h9) rfl dX5_gauge_5 ?_
  refine lv_iload_n hx hb dX5_gauge_8 rfl (lv_at hl 1 rfl) ?_
  refine cr_i (wc := [(ga, .inr (1, [.ref g1, .ref g2, .ref g3])), (g1, .inl (cZ, 20, .inl (bA UP))), (g2, .inl (cZ, 20, .inl (bA CL))), (g3, .inl (cJ, 20, .inr (.inl CO)))]) (w1 := [(ga, .inr (1, [.ref g1, .ref g2, .ref g3])), (g1, .inl (cZ, 20, .inl (bA UP))), (g2, .inl (cZ, 20, .inl (bA CL))), (g3, .inl (cJ, 20, .inr (.inl CO)))]) (ws2 := [(h0, .inr (5, [.ref ai, .ref pu, .ref pa, .ref ga, .ref sc, .ref hi, .ref gr, .int (nI me), .int (nI dp), .int (bI up), .int (nI mi), .int (nI ru), .long wp, .long wl])), (ga, .inr (1, [.ref g1, .ref g2, .ref g3])), (g1, .inl (cZ, 20, .inl (bA UP))), (g2, .inl (cZ, 20, .inl (bA CL))), (g3, .inl (cJ, 20, .inr (.inl CO)))]) hP hD hS hA [1, 2, 3, 4] rfl rfl rfl (va_runV (As := [.int (nI ki)]) (rest := []) ⟨hx, hb, hml, hown, hts⟩ (c_X1_isUp l D cI cJ cZ ga g1 g2 g3 UP CL CO ki (by omega) H.size) (cwV 1 hts gX5_gauge_X1_isUp rfl rfl rfl (by decide +kernel) ⟨Nat.le_of_ble_eq_true rfl, Nat.le_of_ble_eq_true rfl⟩) (pvV hT hP hD [1, 2, 3, 4] rfl rfl 0 rfl rfl) rfl rfl hl.1 rfl (lv_room (Nat.le_of_ble_eq_true rfl)) dX5_gauge_9 ⟨Nat.zero_le _, Nat.zero_le _⟩) (fun H locs hP hD hS => ?_)
  refine lv_istore_n (lv' := [(3, .int (bI (UP ki))), (0, .ref h0), (1, .int (nI ki)), (2, .int (bI bb))]) hx hb dX5_gauge_12 rfl hl (by decide) rfl (fun ls hl => ?_)
  refine lv_iload_n hx hb dX5_gauge_13 rfl (lv_at hl 0 rfl) ?_
  refine lv_iload_n hx hb dX5_gauge_14 rfl (lv_at hl 3 rfl) ?_
  refine cbb_eq (tgt := 27) hx hb dX5_gauge_15 (by decide) (fun c_15 => ?_) (fun c_15 => ?_)
  · refine lv_iload_n hx hb dX5_gauge_27 rfl (lv_at hl 0 rfl) ?_
    have hwe : ([(h0, .inr (5, [.ref ai, .ref pu, .ref pa, .ref ga, .ref sc, .ref hi, .ref gr, .int (nI me), .int (nI dp), .int (bI up), .int (nI mi), .int (nI ru), .long wp, .long wl])), (ga, .inr (1, [.ref g1, .ref g2, .ref g3])), (g1, .inl (cZ, 20, .inl (bA (if UP ki = bb then UP else uN UP ki bb)))), (g2, .inl (cZ, 20, .inl (bA (if UP ki = bb then CL else uN CL ki false)))), (g3, .inl (cJ, 20, .inr (.inl (if UP ki = bb then CO else uN CO ki 0))))] : va_W) = [(h0, .inr (5, [.ref ai, .ref pu, .ref pa, .ref ga, .ref sc, .ref hi, .ref gr, .int (nI me), .int (nI dp), .int (bI up), .int (nI mi), .int (nI ru), .long wp, .long wl])), (ga, .inr (1, [.ref g1, .ref g2, .ref g3])), (g1, .inl (cZ, 20, .inl (bA UP))), (g2, .inl (cZ, 20, .inl (bA CL))), (g3, .inl (cJ, 20, .inr (.inl CO)))] := (by first | rw [if_pos c_15, if_pos c_15, if_pos c_15] | rw [if_neg c_15, if_neg c_15, if_neg c_15])
    have hP : va_P D vwCl [(h0, .inr (5, [.ref ai, .ref pu, .ref pa, .ref ga, .ref sc, .ref hi, .ref gr, .int (nI me), .int (nI dp), .int (bI up), .int (nI mi), .int (nI ru), .long wp, .long wl])), (ga, .inr (1, [.ref g1, .ref g2, .ref g3])), (g1, .inl (cZ, 20, .inl (bA (if UP ki = bb then UP else uN UP ki bb)))), (g2, .inl (cZ, 20, .inl (bA (if UP ki = bb then CL else uN CL ki false)))), (g3, .inl (cJ, 20, .inr (.inl (if UP ki = bb then CO else uN CO ki 0))))] H := by rw [hwe]; exact hP
    have hD : va_D A [(h0, .inr (5, [.ref ai, .ref pu, .ref pa, .ref ga, .ref sc, .ref hi, .ref gr, .int (nI me), .int (nI dp), .int (bI up), .int (nI mi), .int (nI ru), .long wp, .long wl])), (ga, .inr (1, [.ref g1, .ref g2, .ref g3])), (g1, .inl (cZ, 20, .inl (bA (if UP ki = bb then UP else uN UP ki bb)))), (g2, .inl (cZ, 20, .inl (bA (if UP ki = bb then CL else uN CL ki false)))), (g3, .inl (cJ, 20, .inr (.inl (if UP ki = bb then CO else uN CO ki 0))))] := by rw [hwe]; exact hD
    exact fin_z hx hb hr hlocks hP hD hS (rfl) dX5_gauge_28
  · refine lv_aload_n hx hb dX5_gauge_18 rfl (lv_at hl 1 rfl) ?_
    refine va_get (D := D) (ci := 5) (v := .ref ga) (C := RX5) (T := TX5) (N := 14) hx hb hts hinX5 hown hK hP 0 rfl rfl 3 (by decide) hf33 (fun _ h9 => h9) rfl dX5_gauge_19 ?_
    refine lv_iload_n hx hb dX5_gauge_22 rfl (lv_at hl 2 rfl) ?_
    refine lv_iload_n hx hb dX5_gauge_23 rfl (lv_at hl 3 rfl) ?_
    refine cr_v (wc := [(ga, .inr (1, [.ref g1, .ref g2, .ref g3])), (g1, .inl (cZ, 20, .inl (bA UP))), (g2, .inl (cZ, 20, .inl (bA CL))), (g3, .inl (cJ, 20, .inr (.inl CO)))]) (w1 := [(ga, .inr (1, [.ref g1, .ref g2, .ref g3])), (g1, .inl (cZ, 20, .inl (bA (uN UP ki bb)))), (g2, .inl (cZ, 20, .inl (bA (uN CL ki false)))), (g3, .inl (cJ, 20, .inr (.inl (uN CO ki 0))))]) (ws2 := [(h0, .inr (5, [.ref ai, .ref pu, .ref pa, .ref ga, .ref sc, .ref hi, .ref gr, .int (nI me), .int (nI dp), .int (bI up), .int (nI mi), .int (nI ru), .long wp, .long wl])), (ga, .inr (1, [.ref g1, .ref g2, .ref g3])), (g1, .inl (cZ, 20, .inl (bA (uN UP ki bb)))), (g2, .inl (cZ, 20, .inl (bA (uN CL ki false)))), (g3, .inl (cJ, 20, .inr (.inl (uN CO ki 0))))]) hP hD hS hA [1, 2, 3, 4] rfl rfl rfl (va_runV (As := [.int (nI ki), .int (bI bb)]) (rest := []) ⟨hx, hb, hml, hown, hts⟩ (c_X1_change l D cI cJ cZ ga g1 g2 g3 UP CL CO ki bb (by omega) H.size) (cwV 2 hts gX5_gauge_X1_change rfl rfl rfl (by decide +kernel) ⟨Nat.le_of_ble_eq_true rfl, Nat.le_of_ble_eq_true rfl⟩) (pvV hT hP hD [1, 2, 3, 4] rfl rfl 0 rfl rfl) rfl rfl hl.1 rfl (lv_room (Nat.le_of_ble_eq_true rfl)) dX5_gauge_24 ⟨Nat.zero_le _, Nat.zero_le _⟩) (fun H locs hP hD hS => ?_)
    refine lv_iload_n hx hb dX5_gauge_27 rfl (lv_at hl 0 rfl) ?_
    have hwe : ([(h0, .inr (5, [.ref ai, .ref pu, .ref pa, .ref ga, .ref sc, .ref hi, .ref gr, .int (nI me), .int (nI dp), .int (bI up), .int (nI mi), .int (nI ru), .long wp, .long wl])), (ga, .inr (1, [.ref g1, .ref g2, .ref g3])), (g1, .inl (cZ, 20, .inl (bA (if UP ki = bb then UP else uN UP ki bb)))), (g2, .inl (cZ, 20, .inl (bA (if UP ki = bb then CL else uN CL ki false)))), (g3, .inl (cJ, 20, .inr (.inl (if UP ki = bb then CO else uN CO ki 0))))] : va_W) = [(h0, .inr (5, [.ref ai, .ref pu, .ref pa, .ref ga, .ref sc, .ref hi, .ref gr, .int (nI me), .int (nI dp), .int (bI up), .int (nI mi), .int (nI ru), .long wp, .long wl])), (ga, .inr (1, [.ref g1, .ref g2, .ref g3])), (g1, .inl (cZ, 20, .inl (bA (uN UP ki bb)))), (g2, .inl (cZ, 20, .inl (bA (uN CL ki false)))), (g3, .inl (cJ, 20, .inr (.inl (uN CO ki 0))))] := (by first | rw [if_pos c_15, if_pos c_15, if_pos c_15] | rw [if_neg c_15, if_neg c_15, if_neg c_15])
    have hP : va_P D vwCl [(h0, .inr (5, [.ref ai, .ref pu, .ref pa, .ref ga, .ref sc, .ref hi, .ref gr, .int (nI me), .int (nI dp), .int (bI up), .int (nI mi), .int (nI ru), .long wp, .long wl])), (ga, .inr (1, [.ref g1, .ref g2, .ref g3])), (g1, .inl (cZ, 20, .inl (bA (if UP ki = bb then UP else uN UP ki bb)))), (g2, .inl (cZ, 20, .inl (bA (if UP ki = bb then CL else uN CL ki false)))), (g3, .inl (cJ, 20, .inr (.inl (if UP ki = bb then CO else uN CO ki 0))))] H := by rw [hwe]; exact hP
    have hD : va_D A [(h0, .inr (5, [.ref ai, .ref pu, .ref pa, .ref ga, .ref sc, .ref hi, .ref gr, .int (nI me), .int (nI dp), .int (bI up), .int (nI mi), .int (nI ru), .long wp, .long wl])), (ga, .inr (1, [.ref g1, .ref g2, .ref g3])), (g1, .inl (cZ, 20, .inl (bA (if UP ki = bb then UP else uN UP ki bb)))), (g2, .inl (cZ, 20, .inl (bA (if UP ki = bb then CL else uN CL ki false)))), (g3, .inl (cJ, 20, .inr (.inl (if UP ki = bb then CO else uN CO ki 0))))] := by rw [hwe]; exact hD
    exact fin_z hx hb hr hlocks hP hD hS (rfl) dX5_gauge_28
set_option maxHeartbeats 4000000 in
set_option maxRecDepth 100000 in
theorem c_X5_clog (l : Launch) (D : va_G) (cI cJ cZ : ClassId) (h0 : Nat) (ai : Nat) (pu : Nat) (pa : Nat) (ga : Nat) (sc : Nat) (hi : Nat) (gr : Nat) (me : Nat) (dp : Nat) (up : Bool) (mi : Nat) (ru : Nat) (wp : Int64) (wl : Int64) (g1 : Nat) (g2 : Nat) (g3 : Nat) (UP : Nat → Bool) (CL : Nat → Bool) (CO : Nat → Int64) (ki : Nat) (bb : Bool) (hki : ki < 20) (hup : UP ki = true) (sz : Nat) : Met l yX5_clog wsX5_clog ({ frames := 3, cells := 0, slots := 0, locals := 62 } : Room) (va_Pc [.ref h0, .int (nI ki), .int (bI bb)] (mPre D cI cJ cZ [(h0, .inr (5, [.ref ai, .ref pu, .ref pa, .ref ga, .ref sc, .ref hi, .ref gr, .int (nI me), .int (nI dp), .int (bI up), .int (nI mi), .int (nI ru), .long wp, .long wl])), (ga, .inr (1, [.ref g1, .ref g2, .ref g3])), (g1, .inl (cZ, 20, .inl (bA UP))), (g2, .inl (cZ, 20, .inl (bA CL))), (g3, .inl (cJ, 20, .inr (.inl CO)))] sz)) (Qi9 D (va_A [(h0, .inr (5, [.ref ai, .ref pu, .ref pa, .ref ga, .ref sc, .ref hi, .ref gr, .int (nI me), .int (nI dp), .int (bI up), .int (nI mi), .int (nI ru), .long wp, .long wl])), (ga, .inr (1, [.ref g1, .ref g2, .ref g3])), (g1, .inl (cZ, 20, .inl (bA UP))), (g2, .inl (cZ, 20, .inl (bA CL))), (g3, .inl (cJ, 20, .inr (.inl CO)))] sz) [(h0, .inr (5, [.ref ai, .ref pu, .ref pa, .ref ga, .ref sc, .ref hi, .ref gr, .int (nI me), .int (nI dp), .int (bI up), .int (nI mi), .int (nI ru), .long wp, .long wl])), (ga, .inr (1, [.ref g1, .ref g2, .ref g3])), (g1, .inl (cZ, 20, .inl (bA UP))), (g2, .inl (cZ, 20, .inl (bA (uN CL ki bb)))), (g3, .inl (cJ, 20, .inr (.inl CO)))] (bI (CL ki))) 0 0 (va_A [(h0, .inr (5, [.ref ai, .ref pu, .ref pa, .ref ga, .ref sc, .ref hi, .ref gr, .int (nI me), .int (nI dp), .int (bI up), .int (nI mi), .int (nI ru), .long wp, .long wl])), (ga, .inr (1, [.ref g1, .ref g2, .ref g3])), (g1, .inl (cZ, 20, .inl (bA UP))), (g2, .inl (cZ, 20, .inl (bA CL))), (g3, .inl (cJ, 20, .inr (.inl CO)))] sz) := by
  refine Met.ofW (cc := cX5_clog) (maxL := 4) (ret := (some .boolean)) (by decide) rfl ?_
  intro p e s m args below meth c s₁ B hml hv
  obtain ⟨hargs, hsz, hP, hT, hD0⟩ := hv
  have hx := B.exec
  have hb := B.bytes
  have hr := B.returns
  have hts := atoms_spec (ws := wsX5_clog) B.pre
  have hown : s.vm.findClass RX5 = some m.cls := findClass_of_methodNamed B.named
  have hlocks := B.notSynchronized
  subst hsz
  have hK := hT.1
  have hD := hD0.self (sz := s.heap.size)
  generalize hAe : va_A [(h0, .inr (5, [.ref ai, .ref pu, .ref pa, .ref ga, .ref sc, .ref hi, .ref gr, .int (nI me), .int (nI dp), .int (bI up), .int (nI mi), .int (nI ru), .long wp, .long wl])), (ga, .inr (1, [.ref g1, .ref g2, .ref g3])), (g1, .inl (cZ, 20, .inl (bA UP))), (g2, .inl (cZ, 20, .inl (bA CL))), (g3, .inl (cJ, 20, .inr (.inl CO)))] s.heap.size = A at hD ⊢
  have hA : ∀ q : Nat, s.heap.size ≤ q → A q := fun q h => by rw [← hAe]; exact Or.inr h
  have hS : va_S A s.heap s.heap [] := va_S.rf
  obtain ⟨H, hHe⟩ : ∃ H : Heap, H = s.heap := ⟨_, rfl⟩
  have hS : va_S A s.heap H [] := by rw [hHe]; exact va_S.rf
  rw [← hHe] at hP
  suffices K0 : W p l e (headSpec wsX5_clog ({ frames := 3, cells := 0, slots := 0, locals := 62 } : Room)).room s m args below meth c H [] 0 0 (MQ below (Qi9 D A [(h0, .inr (5, [.ref ai, .ref pu, .ref pa, .ref ga, .ref sc, .ref hi, .ref gr, .int (nI me), .int (nI dp), .int (bI up), .int (nI mi), .int (nI ru), .long wp, .long wl])), (ga, .inr (1, [.ref g1, .ref g2, .ref g3])), (g1, .inl (cZ, 20, .inl (bA UP))), (g2, .inl (cZ, 20, .inl (bA (uN CL ki bb)))), (g3, .inl (cJ, 20, .inr (.inl CO)))] (bI (CL ki))) args s 0 0 A) (entryFrame m args 4) by rw [hHe] at K0; exact K0
  refine W.eq (g2 := entryFrame m ([.ref h0, .int (nI ki), .int (bI bb)] : List Value).toArray 4) (by rw [hargs]) ?_
  have hl := lv_entry ([.ref h0, .int (nI ki), .int (bI bb)]) (n := 4) (Nat.le_of_ble_eq_true rfl)
  rw [lg_entry_eq]
  generalize (lg_sl ([.ref h0, .int (nI ki), .int (bI bb)]) ++ List.replicate (4 - (lg_sl ([.ref h0, .int (nI ki), .int (bI bb)])).length) Slot.unset).toArray = ls at hl ⊢
  have hl : lv_has ls 4 [(0, .ref h0), (1, .int (nI ki)), (2, .int (bI bb))] := hl
  generalize ([] : List Loc) = locs at hS ⊢
  have hinX5 : ∀ w ∈ wsX50, w ∈ wsX5_clog := by decide +kernel
  have hf33 := hts (.fieldLink RX5 33 "Brightband" "gauges" "LBrightband$Gauges;") (by decide +kernel)
  refine lv_iload_n hx hb dX5_clog_0 rfl (lv_at hl 1 rfl) ?_
  refine cr_v (wc := []) (w1 := []) (ws2 := [(h0, .inr (5, [.ref ai, .ref pu, .ref pa, .ref ga, .ref sc, .ref hi, .ref gr, .int (nI me), .int (nI dp), .int (bI up), .int (nI mi), .int (nI ru), .long wp, .long wl])), (ga, .inr (1, [.ref g1, .ref g2, .ref g3])), (g1, .inl (cZ, 20, .inl (bA UP))), (g2, .inl (cZ, 20, .inl (bA CL))), (g3, .inl (cJ, 20, .inr (.inl CO)))]) hP hD hS hA [] rfl rfl rfl (va_runS (As := [.int (nI ki)]) (rest := []) ⟨hx, hb, hml, hown, hts⟩ (c_X5_requireKilometre l D cI cJ cZ ki (by omega) H.size) (va_cwS 1 hts gX5_clog_X5_requireKilometre rfl rfl rfl (by decide +kernel) ⟨Nat.le_of_ble_eq_true rfl, Nat.le_of_ble_eq_true rfl⟩) (pvS hT hP hD [] rfl rfl) rfl rfl hl.1 rfl (lv_room (Nat.le_of_ble_eq_true rfl)) dX5_clog_1 ⟨Nat.zero_le _, Nat.zero_le _⟩) (fun H locs hP hD hS => ?_)
  refine lv_aload_n hx hb dX5_clog_4 rfl (lv_at hl 0 rfl) ?_
  refine lv_iload_n hx hb dX5_clog_5 rfl (lv_at hl 1 rfl) ?_
  refine cr_v (wc := [(h0, .inr (5, [.ref ai, .ref pu, .ref pa, .ref ga, .ref sc, .ref hi, .ref gr, .int (nI me), .int (nI dp), .int (bI up), .int (nI mi), .int (nI ru), .long wp, .long wl])), (ga, .inr (1, [.ref g1, .ref g2, .ref g3])), (g1, .inl (cZ, 20, .inl (bA UP))), (g2, .inl (cZ, 20, .inl (bA CL))), (g3, .inl (cJ, 20, .inr (.inl CO)))]) (w1 := [(h0, .inr (5, [.ref ai, .ref pu, .ref pa, .ref ga, .ref sc, .ref hi, .ref gr, .int (nI me), .int (nI dp), .int (bI up), .int (nI mi), .int (nI ru), .long wp, .long wl])), (ga, .inr (1, [.ref g1, .ref g2, .ref g3])), (g1, .inl (cZ, 20, .inl (bA UP))), (g2, .inl (cZ, 20, .inl (bA CL))), (g3, .inl (cJ, 20, .inr (.inl CO)))]) (ws2 := [(h0, .inr (5, [.ref ai, .ref pu, .ref pa, .ref ga, .ref sc, .ref hi, .ref gr, .int (nI me), .int (nI dp), .int (bI up), .int (nI mi), .int (nI ru), .long wp, .long wl])), (ga, .inr (1, [.ref g1, .ref g2, .ref g3])), (g1, .inl (cZ, 20, .inl (bA UP))), (g2, .inl (cZ, 20, .inl (bA CL))), (g3, .inl (cJ, 20, .inr (.inl CO)))]) hP hD hS hA [0, 1, 2, 3, 4] rfl rfl rfl (va_runV (As := [.int (nI ki)]) (rest := []) ⟨hx, hb, hml, hown, hts⟩ (c_X5_requireGauge l D cI cJ cZ h0 ai pu pa ga sc hi gr me dp up mi ru wp wl g1 g2 g3 UP CL CO ki (by omega) hup H.size) (cwV 1 hts gX5_clog_X5_requireGauge rfl rfl rfl (by decide +kernel) ⟨Nat.le_of_ble_eq_true rfl, Nat.le_of_ble_eq_true rfl⟩) (pvV hT hP hD [0, 1, 2, 3, 4] rfl rfl 0 rfl rfl) rfl rfl hl.1 rfl (lv_room (Nat.le_of_ble_eq_true rfl)) dX5_clog_6 ⟨Nat.zero_le _, Nat.zero_le _⟩) (fun H locs hP hD hS => ?_)
  refine lv_aload_n hx hb dX5_clog_9 rfl (lv_at hl 0 rfl) ?_
  refine va_get (D := D) (ci := 5) (v := .ref ga) (C := RX5) (T := TX5) (N := 14) hx hb hts hinX5 hown hK hP 0 rfl rfl 3 (by decide) hf33 (fun _ h9 => h9) rfl dX5_clog_10 ?_
  refine lv_iload_n hx hb dX5_clog_13 rfl (lv_at hl 1 rfl) ?_
  refine cr_i (wc := [(ga, .inr (1, [.ref g1, .ref g2, .ref g3])), (g1, .inl (cZ, 20, .inl (bA UP))), (g2, .inl (cZ, 20, .inl (bA CL))), (g3, .inl (cJ, 20, .inr (.inl CO)))]) (w1 := [(ga, .inr (1, [.ref g1, .ref g2, .ref g3])), (g1, .inl (cZ, 20, .inl (bA UP))), (g2, .inl (cZ, 20, .inl (bA CL))), (g3, .inl (cJ, 20, .inr (.inl CO)))]) (ws2 := [(h0, .inr (5, [.ref ai, .ref pu, .ref pa, .ref ga, .ref sc, .ref hi, .ref gr, .int (nI me), .int (nI dp), .int (bI up), .int (nI mi), .int (nI ru), .long wp, .long wl])), (ga, .inr (1, [.ref g1, .ref g2, .ref g3])), (g1, .inl (cZ, 20, .inl (bA UP))), (g2, .inl (cZ, 20, .inl (bA CL))), (g3, .inl (cJ, 20, .inr (.inl CO)))]) hP hD hS hA [1, 2, 3, 4] rfl rfl rfl (va_runV (As := [.int (nI ki)]) (rest := []) ⟨hx, hb, hml, hown, hts⟩ (c_X1_isClogged l D cI cJ cZ ga g1 g2 g3 UP CL CO ki (by omega) H.size) (cwV 1 hts gX5_clog_X1_isClogged rfl rfl rfl (by decide +kernel) ⟨Nat.le_of_ble_eq_true rfl, Nat.le_of_ble_eq_true rfl⟩) (pvV hT hP hD [1, 2, 3, 4] rfl rfl 0 rfl rfl) rfl rfl hl.1 rfl (lv_room (Nat.le_of_ble_eq_true rfl)) dX5_clog_14 ⟨Nat.zero_le _, Nat.zero_le _⟩) (fun H locs hP hD hS => ?_)
  refine lv_istore_n (lv' := [(3, .int (bI (CL ki))), (0, .ref h0), (1, .int (nI ki)), (2, .int (bI bb))]) hx hb dX5_clog_17 rfl hl (by decide) rfl (fun ls hl => ?_)
  refine lv_aload_n hx hb dX5_clog_18 rfl (lv_at hl 1 rfl) ?_
  refine va_get (D := D) (ci := 5) (v := .ref ga) (C := RX5) (T := TX5) (N := 14) hx hb hts hinX5 hown hK hP 0 rfl rfl 3 (by decide) hf33 (fun _ h9 => h9) rfl dX5_clog_19 ?_
  refine lv_iload_n hx hb dX5_clog_22 rfl (lv_at hl 2 rfl) ?_
  refine lv_iload_n hx hb dX5_clog_23 rfl (lv_at hl 3 rfl) ?_
  refine cr_v (wc := [(ga, .inr (1, [.ref g1, .ref g2, .ref g3])), (g1, .inl (cZ, 20, .inl (bA UP))), (g2, .inl (cZ, 20, .inl (bA CL))), (g3, .inl (cJ, 20, .inr (.inl CO)))]) (w1 := [(ga, .inr (1, [.ref g1, .ref g2, .ref g3])), (g1, .inl (cZ, 20, .inl (bA UP))), (g2, .inl (cZ, 20, .inl (bA (uN CL ki bb)))), (g3, .inl (cJ, 20, .inr (.inl CO)))]) (ws2 := [(h0, .inr (5, [.ref ai, .ref pu, .ref pa, .ref ga, .ref sc, .ref hi, .ref gr, .int (nI me), .int (nI dp), .int (bI up), .int (nI mi), .int (nI ru), .long wp, .long wl])), (ga, .inr (1, [.ref g1, .ref g2, .ref g3])), (g1, .inl (cZ, 20, .inl (bA UP))), (g2, .inl (cZ, 20, .inl (bA (uN CL ki bb)))), (g3, .inl (cJ, 20, .inr (.inl CO)))]) hP hD hS hA [1, 2, 3, 4] rfl rfl rfl (va_runV (As := [.int (nI ki), .int (bI bb)]) (rest := []) ⟨hx, hb, hml, hown, hts⟩ (c_X1_setClogged l D cI cJ cZ ga g1 g2 g3 UP CL CO ki bb (by omega) H.size) (cwV 2 hts gX5_clog_X1_setClogged rfl rfl rfl (by decide +kernel) ⟨Nat.le_of_ble_eq_true rfl, Nat.le_of_ble_eq_true rfl⟩) (pvV hT hP hD [1, 2, 3, 4] rfl rfl 0 rfl rfl) rfl rfl hl.1 rfl (lv_room (Nat.le_of_ble_eq_true rfl)) dX5_clog_24 ⟨Nat.zero_le _, Nat.zero_le _⟩) (fun H locs hP hD hS => ?_)
  refine lv_iload_n hx hb dX5_clog_27 rfl (lv_at hl 0 rfl) ?_
  exact fin_z hx hb hr hlocks hP hD hS (rfl) dX5_clog_28
set_option maxHeartbeats 4000000 in
set_option maxRecDepth 100000 in
theorem c_X5_rule (l : Launch) (D : va_G) (cI cJ cZ : ClassId) (h0 : Nat) (ai : Nat) (pu : Nat) (pa : Nat) (ga : Nat) (sc : Nat) (hi : Nat) (gr : Nat) (me : Nat) (dp : Nat) (up : Bool) (mi : Nat) (ru : Nat) (wp : Int64) (wl : Int64) (rr : Nat) (hr1 : 1 ≤ rr) (hr2 : rr ≤ 1000) (sz : Nat) : Met l yX5_rule wsX5_rule ({ frames := 1, cells := 0, slots := 0, locals := 22 } : Room) (va_Pc [.ref h0, .int (nI rr)] (mPre D cI cJ cZ [(h0, .inr (5, [.ref ai, .ref pu, .ref pa, .ref ga, .ref sc, .ref hi, .ref gr, .int (nI me), .int (nI dp), .int (bI up), .int (nI mi), .int (nI ru), .long wp, .long wl]))] sz)) (Qi9 D (va_A [(h0, .inr (5, [.ref ai, .ref pu, .ref pa, .ref ga, .ref sc, .ref hi, .ref gr, .int (nI me), .int (nI dp), .int (bI up), .int (nI mi), .int (nI ru), .long wp, .long wl]))] sz) [(h0, .inr (5, [.ref ai, .ref pu, .ref pa, .ref ga, .ref sc, .ref hi, .ref gr, .int (nI me), .int (nI dp), .int (bI up), .int (nI mi), .int (nI rr), .long wp, .long wl]))] (nI ru)) 0 0 (va_A [(h0, .inr (5, [.ref ai, .ref pu, .ref pa, .ref ga, .ref sc, .ref hi, .ref gr, .int (nI me), .int (nI dp), .int (bI up), .int (nI mi), .int (nI ru), .long wp, .long wl]))] sz) := by
  refine Met.ofW (cc := cX5_rule) (maxL := 3) (ret := (some .int)) (by decide) rfl ?_
  intro p e s m args below meth c s₁ B hml hv
  obtain ⟨hargs, hsz, hP, hT, hD0⟩ := hv
  have hx := B.exec
  have hb := B.bytes
  have hr := B.returns
  have hts := atoms_spec (ws := wsX5_rule) B.pre
  have hown : s.vm.findClass RX5 = some m.cls := findClass_of_methodNamed B.named
  have hlocks := B.notSynchronized
  subst hsz
  have hK := hT.1
  have hD := hD0.self (sz := s.heap.size)
  generalize hAe : va_A [(h0, .inr (5, [.ref ai, .ref pu, .ref pa, .ref ga, .ref sc, .ref hi, .ref gr, .int (nI me), .int (nI dp), .int (bI up), .int (nI mi), .int (nI ru), .long wp, .long wl]))] s.heap.size = A at hD ⊢
  have hA : ∀ q : Nat, s.heap.size ≤ q → A q := fun q h => by rw [← hAe]; exact Or.inr h
  have hS : va_S A s.heap s.heap [] := va_S.rf
  obtain ⟨H, hHe⟩ : ∃ H : Heap, H = s.heap := ⟨_, rfl⟩
  have hS : va_S A s.heap H [] := by rw [hHe]; exact va_S.rf
  rw [← hHe] at hP
  suffices K0 : W p l e (headSpec wsX5_rule ({ frames := 1, cells := 0, slots := 0, locals := 22 } : Room)).room s m args below meth c H [] 0 0 (MQ below (Qi9 D A [(h0, .inr (5, [.ref ai, .ref pu, .ref pa, .ref ga, .ref sc, .ref hi, .ref gr, .int (nI me), .int (nI dp), .int (bI up), .int (nI mi), .int (nI rr), .long wp, .long wl]))] (nI ru)) args s 0 0 A) (entryFrame m args 3) by rw [hHe] at K0; exact K0
  refine W.eq (g2 := entryFrame m ([.ref h0, .int (nI rr)] : List Value).toArray 3) (by rw [hargs]) ?_
  have hl := lv_entry ([.ref h0, .int (nI rr)]) (n := 3) (Nat.le_of_ble_eq_true rfl)
  rw [lg_entry_eq]
  generalize (lg_sl ([.ref h0, .int (nI rr)]) ++ List.replicate (3 - (lg_sl ([.ref h0, .int (nI rr)])).length) Slot.unset).toArray = ls at hl ⊢
  have hl : lv_has ls 3 [(0, .ref h0), (1, .int (nI rr))] := hl
  generalize ([] : List Loc) = locs at hS ⊢
  have hinX5 : ∀ w ∈ wsX50, w ∈ wsX5_rule := by decide +kernel
  have hf66 := hts (.fieldLink RX5 66 "Brightband" "ruleNow" "I") (by decide +kernel)
  refine lv_iload_n hx hb dX5_rule_0 rfl (lv_at hl 1 rfl) ?_
  refine lv_iconst (v := nI 1) hx hb dX5_rule_1 (by decide) ?_
  refine lv_sipush (v := nI 1000) hx hb dX5_rule_2 (by decide) ?_
  refine cr_v (wc := []) (w1 := []) (ws2 := [(h0, .inr (5, [.ref ai, .ref pu, .ref pa, .ref ga, .ref sc, .ref hi, .ref gr, .int (nI me), .int (nI dp), .int (bI up), .int (nI mi), .int (nI ru), .long wp, .long wl]))]) hP hD hS hA [] rfl rfl rfl (va_runS (As := [.int (nI rr), .int (nI 1), .int (nI 1000)]) (rest := []) ⟨hx, hb, hml, hown, hts⟩ (c_X5_requireRange l D cI cJ cZ rr 1 1000 (by omega) (by omega) (by omega) H.size) (va_cwS 3 hts gX5_rule_X5_requireRange rfl rfl rfl (by decide +kernel) ⟨Nat.le_of_ble_eq_true rfl, Nat.le_of_ble_eq_true rfl⟩) (pvS hT hP hD [] rfl rfl) rfl rfl hl.1 rfl (lv_room (Nat.le_of_ble_eq_true rfl)) dX5_rule_5 ⟨Nat.zero_le _, Nat.zero_le _⟩) (fun H locs hP hD hS => ?_)
  refine lv_aload_n hx hb dX5_rule_8 rfl (lv_at hl 0 rfl) ?_
  refine va_get (D := D) (ci := 5) (v := .int (nI ru)) (C := RX5) (T := TX5) (N := 14) hx hb hts hinX5 hown hK hP 0 rfl rfl 11 (by decide) hf66 (fun _ h9 => h9) rfl dX5_rule_9 ?_
  refine lv_istore_n (lv' := [(2, .int (nI ru)), (0, .ref h0), (1, .int (nI rr))]) hx hb dX5_rule_12 rfl hl (by decide) rfl (fun ls hl => ?_)
  refine lv_aload_n hx hb dX5_rule_13 rfl (lv_at hl 1 rfl) ?_
  refine lv_iload_n hx hb dX5_rule_14 rfl (lv_at hl 2 rfl) ?_
  refine va_put (D := D) (ci := 5) (v := .int (nI rr)) (ty := .int) (C := RX5) (T := TX5) (N := 14) hx hb hts hinX5 tyX5 tyX5_ok nmX5 hown hK hP hD hS 0 rfl rfl 11 (by decide) hf66 (fun _ h9 => h9) rfl (by decide +kernel) rfl rfl (Nat.le_of_ble_eq_true rfl) dX5_rule_15 (fun H locs hP hD hS => ?_)
  have hP : va_P D vwCl [(h0, .inr (5, [.ref ai, .ref pu, .ref pa, .ref ga, .ref sc, .ref hi, .ref gr, .int (nI me), .int (nI dp), .int (bI up), .int (nI mi), .int (nI rr), .long wp, .long wl]))] H := hP
  have hD : va_D A [(h0, .inr (5, [.ref ai, .ref pu, .ref pa, .ref ga, .ref sc, .ref hi, .ref gr, .int (nI me), .int (nI dp), .int (bI up), .int (nI mi), .int (nI rr), .long wp, .long wl]))] := hD
  refine lv_iload_n hx hb dX5_rule_18 rfl (lv_at hl 0 rfl) ?_
  exact fin_i hx hb hr hlocks hP hD hS (rfl) dX5_rule_19
set_option maxHeartbeats 4000000 in
set_option maxRecDepth 100000 in
theorem c_X5_count (l : Launch) (D : va_G) (cI cJ cZ : ClassId) (h0 : Nat) (ai : Nat) (pu : Nat) (pa : Nat) (ga : Nat) (sc : Nat) (hi : Nat) (gr : Nat) (me : Nat) (dp : Nat) (up : Bool) (mi : Nat) (ru : Nat) (wp : Int64) (wl : Int64) (a1 : Nat) (C : Nat → Nat) (ki : Nat) (la : Nat) (si : Nat) (hki : ki < 20) (hla : la < 10) (hs1 : 1 ≤ si) (hs3 : si ≤ 3) (sz : Nat) : Met l yX5_count wsX5_count ({ frames := 2, cells := 0, slots := 0, locals := 46 } : Room) (va_Pc [.ref h0, .int (nI ki), .int (nI la), .int (nI si)] (mPre D cI cJ cZ [(h0, .inr (5, [.ref ai, .ref pu, .ref pa, .ref ga, .ref sc, .ref hi, .ref gr, .int (nI me), .int (nI dp), .int (bI up), .int (nI mi), .int (nI ru), .long wp, .long wl])), (ai, .inr (0, [.ref a1])), (a1, .inl (cI, 600, .inl (nA C)))] sz)) (Qi9 D (va_A [(h0, .inr (5, [.ref ai, .ref pu, .ref pa, .ref ga, .ref sc, .ref hi, .ref gr, .int (nI me), .int (nI dp), .int (bI up), .int (nI mi), .int (nI ru), .long wp, .long wl])), (ai, .inr (0, [.ref a1])), (a1, .inl (cI, 600, .inl (nA C)))] sz) [(h0, .inr (5, [.ref ai, .ref pu, .ref pa, .ref ga, .ref sc, .ref hi, .ref gr, .int (nI me), .int (nI dp), .int (bI up), .int (nI mi), .int (nI ru), .long wp, .long wl])), (ai, .inr (0, [.ref a1])), (a1, .inl (cI, 600, .inl (nA C)))] (nI (C (30 * ki + 3 * la + (si - 1))))) 0 0 (va_A [(h0, .inr (5, [.ref ai, .ref pu, .ref pa, .ref ga, .ref sc, .ref hi, .ref gr, .int (nI me), .int (nI dp), .int (bI up), .int (nI mi), .int (nI ru), .long wp, .long wl])), (ai, .inr (0, [.ref a1])), (a1, .inl (cI, 600, .inl (nA C)))] sz) := by
  refine Met.ofW (cc := cX5_count) (maxL := 4) (ret := (some .int)) (by decide) rfl ?_
  intro p e s m args below meth c s₁ B hml hv
  obtain ⟨hargs, hsz, hP, hT, hD0⟩ := hv
  have hx := B.exec
  have hb := B.bytes
  have hr := B.returns
  have hts := atoms_spec (ws := wsX5_count) B.pre
  have hown : s.vm.findClass RX5 = some m.cls := findClass_of_methodNamed B.named
  have hlocks := B.notSynchronized
  subst hsz
  have hK := hT.1
  have hD := hD0.self (sz := s.heap.size)
  generalize hAe : va_A [(h0, .inr (5, [.ref ai, .ref pu, .ref pa, .ref ga, .ref sc, .ref hi, .ref gr, .int (nI me), .int (nI dp), .int (bI up), .int (nI mi), .int (nI ru), .long wp, .long wl])), (ai, .inr (0, [.ref a1])), (a1, .inl (cI, 600, .inl (nA C)))] s.heap.size = A at hD ⊢
  have hA : ∀ q : Nat, s.heap.size ≤ q → A q := fun q h => by rw [← hAe]; exact Or.inr h
  have hS : va_S A s.heap s.heap [] := va_S.rf
  obtain ⟨H, hHe⟩ : ∃ H : Heap, H = s.heap := ⟨_, rfl⟩
  have hS : va_S A s.heap H [] := by rw [hHe]; exact va_S.rf
  rw [← hHe] at hP
  suffices K0 : W p l e (headSpec wsX5_count ({ frames := 2, cells := 0, slots := 0, locals := 46 } : Room)).room s m args below meth c H [] 0 0 (MQ below (Qi9 D A [(h0, .inr (5, [.ref ai, .ref pu, .ref pa, .ref ga, .ref sc, .ref hi, .ref gr, .int (nI me), .int (nI dp), .int (bI up), .int (nI mi), .int (nI ru), .long wp, .long wl])), (ai, .inr (0, [.ref a1])), (a1, .inl (cI, 600, .inl (nA C)))] (nI (C (30 * ki + 3 * la + (si - 1))))) args s 0 0 A) (entryFrame m args 4) by rw [hHe] at K0; exact K0
  refine W.eq (g2 := entryFrame m ([.ref h0, .int (nI ki), .int (nI la), .int (nI si)] : List Value).toArray 4) (by rw [hargs]) ?_
  have hl := lv_entry ([.ref h0, .int (nI ki), .int (nI la), .int (nI si)]) (n := 4) (Nat.le_of_ble_eq_true rfl)
  rw [lg_entry_eq]
  generalize (lg_sl ([.ref h0, .int (nI ki), .int (nI la), .int (nI si)]) ++ List.replicate (4 - (lg_sl ([.ref h0, .int (nI ki), .int (nI la), .int (nI si)])).length) Slot.unset).toArray = ls at hl ⊢
  have hl : lv_has ls 4 [(0, .ref h0), (1, .int (nI ki)), (2, .int (nI la)), (3, .int (nI si))] := hl
  generalize ([] : List Loc) = locs at hS ⊢
  have hinX5 : ∀ w ∈ wsX50, w ∈ wsX5_count := by decide +kernel
  have hf12 := hts (.fieldLink RX5 12 "Brightband" "air" "LBrightband$Air;") (by decide +kernel)
  refine lv_iload_n hx hb dX5_count_0 rfl (lv_at hl 1 rfl) ?_
  refine cr_v (wc := []) (w1 := []) (ws2 := [(h0, .inr (5, [.ref ai, .ref pu, .ref pa, .ref ga, .ref sc, .ref hi, .ref gr, .int (nI me), .int (nI dp), .int (bI up), .int (nI mi), .int (nI ru), .long wp, .long wl])), (ai, .inr (0, [.ref a1])), (a1, .inl (cI, 600, .inl (nA C)))]) hP hD hS hA [] rfl rfl rfl (va_runS (As := [.int (nI ki)]) (rest := []) ⟨hx, hb, hml, hown, hts⟩ (c_X5_requireKilometre l D cI cJ cZ ki (by omega) H.size) (va_cwS 1 hts gX5_count_X5_requireKilometre rfl rfl rfl (by decide +kernel) ⟨Nat.le_of_ble_eq_true rfl, Nat.le_of_ble_eq_true rfl⟩) (pvS hT hP hD [] rfl rfl) rfl rfl hl.1 rfl (lv_room (Nat.le_of_ble_eq_true rfl)) dX5_count_1 ⟨Nat.zero_le _, Nat.zero_le _⟩) (fun H locs hP hD hS => ?_)
  refine lv_iload_n hx hb dX5_count_4 rfl (lv_at hl 2 rfl) ?_
  refine cr_v (wc := []) (w1 := []) (ws2 := [(h0, .inr (5, [.ref ai, .ref pu, .ref pa, .ref ga, .ref sc, .ref hi, .ref gr, .int (nI me), .int (nI dp), .int (bI up), .int (nI mi), .int (nI ru), .long wp, .long wl])), (ai, .inr (0, [.ref a1])), (a1, .inl (cI, 600, .inl (nA C)))]) hP hD hS hA [] rfl rfl rfl (va_runS (As := [.int (nI la)]) (rest := []) ⟨hx, hb, hml, hown, hts⟩ (c_X5_requireLayer l D cI cJ cZ la (by omega) H.size) (va_cwS 1 hts gX5_count_X5_requireLayer rfl rfl rfl (by decide +kernel) ⟨Nat.le_of_ble_eq_true rfl, Nat.le_of_ble_eq_true rfl⟩) (pvS hT hP hD [] rfl rfl) rfl rfl hl.1 rfl (lv_room (Nat.le_of_ble_eq_true rfl)) dX5_count_5 ⟨Nat.zero_le _, Nat.zero_le _⟩) (fun H locs hP hD hS => ?_)
  refine lv_iload_n hx hb dX5_count_8 rfl (lv_at hl 3 rfl) ?_
  refine lv_iconst (v := nI 1) hx hb dX5_count_9 (by decide) ?_
  refine lv_iconst (v := nI 3) hx hb dX5_count_10 (by decide) ?_
  refine cr_v (wc := []) (w1 := []) (ws2 := [(h0, .inr (5, [.ref ai, .ref pu, .ref pa, .ref ga, .ref sc, .ref hi, .ref gr, .int (nI me), .int (nI dp), .int (bI up), .int (nI mi), .int (nI ru), .long wp, .long wl])), (ai, .inr (0, [.ref a1])), (a1, .inl (cI, 600, .inl (nA C)))]) hP hD hS hA [] rfl rfl rfl (va_runS (As := [.int (nI si), .int (nI 1), .int (nI 3)]) (rest := []) ⟨hx, hb, hml, hown, hts⟩ (c_X5_requireRange l D cI cJ cZ si 1 3 (by omega) (by omega) (by omega) H.size) (va_cwS 3 hts gX5_count_X5_requireRange rfl rfl rfl (by decide +kernel) ⟨Nat.le_of_ble_eq_true rfl, Nat.le_of_ble_eq_true rfl⟩) (pvS hT hP hD [] rfl rfl) rfl rfl hl.1 rfl (lv_room (Nat.le_of_ble_eq_true rfl)) dX5_count_11 ⟨Nat.zero_le _, Nat.zero_le _⟩) (fun H locs hP hD hS => ?_)
  refine lv_aload_n hx hb dX5_count_14 rfl (lv_at hl 0 rfl) ?_
  refine va_get (D := D) (ci := 5) (v := .ref ai) (C := RX5) (T := TX5) (N := 14) hx hb hts hinX5 hown hK hP 0 rfl rfl 0 (by decide) hf12 (fun _ h9 => h9) rfl dX5_count_15 ?_
  refine lv_iload_n hx hb dX5_count_18 rfl (lv_at hl 1 rfl) ?_
  refine lv_iload_n hx hb dX5_count_19 rfl (lv_at hl 2 rfl) ?_
  refine lv_iload_n hx hb dX5_count_20 rfl (lv_at hl 3 rfl) ?_
  refine cr_i (wc := [(ai, .inr (0, [.ref a1])), (a1, .inl (cI, 600, .inl (nA C)))]) (w1 := [(ai, .inr (0, [.ref a1])), (a1, .inl (cI, 600, .inl (nA C)))]) (ws2 := [(h0, .inr (5, [.ref ai, .ref pu, .ref pa, .ref ga, .ref sc, .ref hi, .ref gr, .int (nI me), .int (nI dp), .int (bI up), .int (nI mi), .int (nI ru), .long wp, .long wl])), (ai, .inr (0, [.ref a1])), (a1, .inl (cI, 600, .inl (nA C)))]) hP hD hS hA [1, 2] rfl rfl rfl (va_runV (As := [.int (nI ki), .int (nI la), .int (nI si)]) (rest := []) ⟨hx, hb, hml, hown, hts⟩ (c_X0_manyAt_in l D cI cJ cZ ai a1 C ki la si (by omega) (by omega) (by omega) (by omega) H.size) (cwV 3 hts gX5_count_X0_manyAt rfl rfl rfl (by decide +kernel) ⟨Nat.le_of_ble_eq_true rfl, Nat.le_of_ble_eq_true rfl⟩) (pvV hT hP hD [1, 2] rfl rfl 0 rfl rfl) rfl rfl hl.1 rfl (lv_room (Nat.le_of_ble_eq_true rfl)) dX5_count_21 ⟨Nat.zero_le _, Nat.zero_le _⟩) (fun H locs hP hD hS => ?_)
  exact fin_i hx hb hr hlocks hP hD hS (rfl) dX5_count_24
set_option maxHeartbeats 4000000 in
set_option maxRecDepth 100000 in
theorem c_X5_phase (l : Launch) (D : va_G) (cI cJ cZ : ClassId) (h0 : Nat) (ai : Nat) (pu : Nat) (pa : Nat) (ga : Nat) (sc : Nat) (hi : Nat) (gr : Nat) (me : Nat) (dp : Nat) (up : Bool) (mi : Nat) (ru : Nat) (wp : Int64) (wl : Int64) (la : Nat) (hla : la < 10) (hme : me < 10) (sz : Nat) : Met l yX5_phase wsX5_phase ({ frames := 1, cells := 0, slots := 0, locals := 21 } : Room) (va_Pc [.ref h0, .int (nI la)] (mPre D cI cJ cZ [(h0, .inr (5, [.ref ai, .ref pu, .ref pa, .ref ga, .ref sc, .ref hi, .ref gr, .int (nI me), .int (nI dp), .int (bI up), .int (nI mi), .int (nI ru), .long wp, .long wl]))] sz)) (Qi9 D (va_A [(h0, .inr (5, [.ref ai, .ref pu, .ref pa, .ref ga, .ref sc, .ref hi, .ref gr, .int (nI me), .int (nI dp), .int (bI up), .int (nI mi), .int (nI ru), .long wp, .long wl]))] sz) [(h0, .inr (5, [.ref ai, .ref pu, .ref pa, .ref ga, .ref sc, .ref hi, .ref gr, .int (nI me), .int (nI dp), .int (bI up), .int (nI mi), .int (nI ru), .long wp, .long wl]))] (nI (phN la me))) 0 0 (va_A [(h0, .inr (5, [.ref ai, .ref pu, .ref pa, .ref ga, .ref sc, .ref hi, .ref gr, .int (nI me), .int (nI dp), .int (bI up), .int (nI mi), .int (nI ru), .long wp, .long wl]))] sz) := by
  refine Met.ofW (cc := cX5_phase) (maxL := 2) (ret := (some .int)) (by decide) rfl ?_
  intro p e s m args below meth c s₁ B hml hv
  obtain ⟨hargs, hsz, hP, hT, hD0⟩ := hv
  have hx := B.exec
  have hb := B.bytes
  have hr := B.returns
  have hts := atoms_spec (ws := wsX5_phase) B.pre
  have hown : s.vm.findClass RX5 = some m.cls := findClass_of_methodNamed B.named
  have hlocks := B.notSynchronized
  subst hsz
  have hK := hT.1
  have hD := hD0.self (sz := s.heap.size)
  generalize hAe : va_A [(h0, .inr (5, [.ref ai, .ref pu, .ref pa, .ref ga, .ref sc, .ref hi, .ref gr, .int (nI me), .int (nI dp), .int (bI up), .int (nI mi), .int (nI ru), .long wp, .long wl]))] s.heap.size = A at hD ⊢
  have hA : ∀ q : Nat, s.heap.size ≤ q → A q := fun q h => by rw [← hAe]; exact Or.inr h
  have hS : va_S A s.heap s.heap [] := va_S.rf
  obtain ⟨H, hHe⟩ : ∃ H : Heap, H = s.heap := ⟨_, rfl⟩
  have hS : va_S A s.heap H [] := by rw [hHe]; exact va_S.rf
  rw [← hHe] at hP
  suffices K0 : W p l e (headSpec wsX5_phase ({ frames := 1, cells := 0, slots := 0, locals := 21 } : Room)).room s m args below meth c H [] 0 0 (MQ below (Qi9 D A [(h0, .inr (5, [.ref ai, .ref pu, .ref pa, .ref ga, .ref sc, .ref hi, .ref gr, .int (nI me), .int (nI dp), .int (bI up), .int (nI mi), .int (nI ru), .long wp, .long wl]))] (nI (phN la me))) args s 0 0 A) (entryFrame m args 2) by rw [hHe] at K0; exact K0
  refine W.eq (g2 := entryFrame m ([.ref h0, .int (nI la)] : List Value).toArray 2) (by rw [hargs]) ?_
  have hl := lv_entry ([.ref h0, .int (nI la)]) (n := 2) (Nat.le_of_ble_eq_true rfl)
  rw [lg_entry_eq]
  generalize (lg_sl ([.ref h0, .int (nI la)]) ++ List.replicate (2 - (lg_sl ([.ref h0, .int (nI la)])).length) Slot.unset).toArray = ls at hl ⊢
  have hl : lv_has ls 2 [(0, .ref h0), (1, .int (nI la))] := hl
  generalize ([] : List Loc) = locs at hS ⊢
  have hinX5 : ∀ w ∈ wsX50, w ∈ wsX5_phase := by decide +kernel
  have hf52 := hts (.fieldLink RX5 52 "Brightband" "meltingLayer" "I") (by decide +kernel)
  refine lv_iload_n hx hb dX5_phase_0 rfl (lv_at hl 1 rfl) ?_
  refine cr_v (wc := []) (w1 := []) (ws2 := [(h0, .inr (5, [.ref ai, .ref pu, .ref pa, .ref ga, .ref sc, .ref hi, .ref gr, .int (nI me), .int (nI dp), .int (bI up), .int (nI mi), .int (nI ru), .long wp, .long wl]))]) hP hD hS hA [] rfl rfl rfl (va_runS (As := [.int (nI la)]) (rest := []) ⟨hx, hb, hml, hown, hts⟩ (c_X5_requireLayer l D cI cJ cZ la (by omega) H.size) (va_cwS 1 hts gX5_phase_X5_requireLayer rfl rfl rfl (by decide +kernel) ⟨Nat.le_of_ble_eq_true rfl, Nat.le_of_ble_eq_true rfl⟩) (pvS hT hP hD [] rfl rfl) rfl rfl hl.1 rfl (lv_room (Nat.le_of_ble_eq_true rfl)) dX5_phase_1 ⟨Nat.zero_le _, Nat.zero_le _⟩) (fun H locs hP hD hS => ?_)
  refine lv_iload_n hx hb dX5_phase_4 rfl (lv_at hl 1 rfl) ?_
  refine lv_aload_n hx hb dX5_phase_5 rfl (lv_at hl 0 rfl) ?_
  refine va_get (D := D) (ci := 5) (v := .int (nI me)) (C := RX5) (T := TX5) (N := 14) hx hb hts hinX5 hown hK hP 0 rfl rfl 7 (by decide) hf52 (fun _ h9 => h9) rfl dX5_phase_6 ?_
  refine cr_i (wc := []) (w1 := []) (ws2 := [(h0, .inr (5, [.ref ai, .ref pu, .ref pa, .ref ga, .ref sc, .ref hi, .ref gr, .int (nI me), .int (nI dp), .int (bI up), .int (nI mi), .int (nI ru), .long wp, .long wl]))]) hP hD hS hA [] rfl rfl rfl (va_runS (As := [.int (nI la), .int (nI me)]) (rest := []) ⟨hx, hb, hml, hown, hts⟩ (c_X5_phaseIn l D cI cJ cZ la me (by omega) (by omega) H.size) (va_cwS 2 hts gX5_phase_X5_phaseIn rfl rfl rfl (by decide +kernel) ⟨Nat.le_of_ble_eq_true rfl, Nat.le_of_ble_eq_true rfl⟩) (pvS hT hP hD [] rfl rfl) rfl rfl hl.1 rfl (lv_room (Nat.le_of_ble_eq_true rfl)) dX5_phase_9 ⟨Nat.zero_le _, Nat.zero_le _⟩) (fun H locs hP hD hS => ?_)
  exact fin_i hx hb hr hlocks hP hD hS (rfl) dX5_phase_12
set_option maxHeartbeats 4000000 in
set_option maxRecDepth 100000 in
theorem c_X5_reachOf (l : Launch) (D : va_G) (cI cJ cZ : ClassId) (h0 : Nat) (ai : Nat) (pu : Nat) (pa : Nat) (ga : Nat) (sc : Nat) (hi : Nat) (gr : Nat) (me : Nat) (dp : Nat) (up : Bool) (mi : Nat) (ru : Nat) (wp : Int64) (wl : Int64) (HI : Nat → Nat) (ev : Nat) (hev : ev < 4) (hHI : ∀ k, k < 20 → HI k ≤ 9) (sz : Nat) : Met l yX5_reachOf wsX5_reachOf ({ frames := 1, cells := 0, slots := 0, locals := 21 } : Room) (va_Pc [.ref h0, .int (nI ev)] (mPre D cI cJ cZ [(h0, .inr (5, [.ref ai, .ref pu, .ref pa, .ref ga, .ref sc, .ref hi, .ref gr, .int (nI me), .int (nI dp), .int (bI up), .int (nI mi), .int (nI ru), .long wp, .long wl])), (hi, .inl (cI, 20, .inl (nA HI)))] sz)) (Qi9 D (va_A [(h0, .inr (5, [.ref ai, .ref pu, .ref pa, .ref ga, .ref sc, .ref hi, .ref gr, .int (nI me), .int (nI dp), .int (bI up), .int (nI mi), .int (nI ru), .long wp, .long wl])), (hi, .inl (cI, 20, .inl (nA HI)))] sz) [(h0, .inr (5, [.ref ai, .ref pu, .ref pa, .ref ga, .ref sc, .ref hi, .ref gr, .int (nI me), .int (nI dp), .int (bI up), .int (nI mi), .int (nI ru), .long wp, .long wl])), (hi, .inl (cI, 20, .inl (nA HI)))] (nI (rch HI ev 20 0))) 0 0 (va_A [(h0, .inr (5, [.ref ai, .ref pu, .ref pa, .ref ga, .ref sc, .ref hi, .ref gr, .int (nI me), .int (nI dp), .int (bI up), .int (nI mi), .int (nI ru), .long wp, .long wl])), (hi, .inl (cI, 20, .inl (nA HI)))] sz) := by
  refine Met.ofW (cc := cX5_reachOf) (maxL := 3) (ret := (some .int)) (by decide) rfl ?_
  intro p e s m args below meth c s₁ B hml hv
  obtain ⟨hargs, hsz, hP, hT, hD0⟩ := hv
  have hx := B.exec
  have hb := B.bytes
  have hr := B.returns
  have hts := atoms_spec (ws := wsX5_reachOf) B.pre
  have hown : s.vm.findClass RX5 = some m.cls := findClass_of_methodNamed B.named
  have hlocks := B.notSynchronized
  subst hsz
  have hK := hT.1
  have hD := hD0.self (sz := s.heap.size)
  generalize hAe : va_A [(h0, .inr (5, [.ref ai, .ref pu, .ref pa, .ref ga, .ref sc, .ref hi, .ref gr, .int (nI me), .int (nI dp), .int (bI up), .int (nI mi), .int (nI ru), .long wp, .long wl])), (hi, .inl (cI, 20, .inl (nA HI)))] s.heap.size = A at hD ⊢
  have hA : ∀ q : Nat, s.heap.size ≤ q → A q := fun q h => by rw [← hAe]; exact Or.inr h
  have hS : va_S A s.heap s.heap [] := va_S.rf
  obtain ⟨H, hHe⟩ : ∃ H : Heap, H = s.heap := ⟨_, rfl⟩
  have hS : va_S A s.heap H [] := by rw [hHe]; exact va_S.rf
  rw [← hHe] at hP
  suffices K0 : W p l e (headSpec wsX5_reachOf ({ frames := 1, cells := 0, slots := 0, locals := 21 } : Room)).room s m args below meth c H [] 0 0 (MQ below (Qi9 D A [(h0, .inr (5, [.ref ai, .ref pu, .ref pa, .ref ga, .ref sc, .ref hi, .ref gr, .int (nI me), .int (nI dp), .int (bI up), .int (nI mi), .int (nI ru), .long wp, .long wl])), (hi, .inl (cI, 20, .inl (nA HI)))] (nI (rch HI ev 20 0))) args s 0 0 A) (entryFrame m args 3) by rw [hHe] at K0; exact K0
  refine W.eq (g2 := entryFrame m ([.ref h0, .int (nI ev)] : List Value).toArray 3) (by rw [hargs]) ?_
  have hl := lv_entry ([.ref h0, .int (nI ev)]) (n := 3) (Nat.le_of_ble_eq_true rfl)
  rw [lg_entry_eq]
  generalize (lg_sl ([.ref h0, .int (nI ev)]) ++ List.replicate (3 - (lg_sl ([.ref h0, .int (nI ev)])).length) Slot.unset).toArray = ls at hl ⊢
  have hl : lv_has ls 3 [(0, .ref h0), (1, .int (nI ev))] := hl
  generalize ([] : List Loc) = locs at hS ⊢
  have hinX5 : ∀ w ∈ wsX50, w ∈ wsX5_reachOf := by decide +kernel
  have hf44 := hts (.fieldLink RX5 44 "Brightband" "hills" "[I") (by decide +kernel)
  refine lv_iconst (v := nI 0) hx hb dX5_reachOf_0 (by decide) ?_
  refine lv_istore_n (lv' := [(2, .int (nI 0)), (0, .ref h0), (1, .int (nI ev))]) hx hb dX5_reachOf_1 rfl hl (by decide) rfl (fun ls hl => ?_)
  have lp2 : ∀ (n i : Nat), i + n = 20 → (rch HI ev 20 0 = rch HI ev (20 - i) i) → ∀ (H : Heap) (locs : List Loc), va_P D vwCl [(h0, .inr (5, [.ref ai, .ref pu, .ref pa, .ref ga, .ref sc, .ref hi, .ref gr, .int (nI me), .int (nI dp), .int (bI up), .int (nI mi), .int (nI ru), .long wp, .long wl])), (hi, .inl (cI, 20, .inl (nA HI)))] H → va_D A [(h0, .inr (5, [.ref ai, .ref pu, .ref pa, .ref ga, .ref sc, .ref hi, .ref gr, .int (nI me), .int (nI dp), .int (bI up), .int (nI mi), .int (nI ru), .long wp, .long wl])), (hi, .inl (cI, 20, .inl (nA HI)))] → va_S A s.heap H locs → ∀ (ls : Array Slot), lv_has ls 3 [(0, .ref h0), (1, .int (nI ev)), (2, .int (nI i))] → W p l e (headSpec wsX5_reachOf ({ frames := 1, cells := 0, slots := 0, locals := 21 } : Room)).room s m args below meth c H locs 0 0 (MQ below (Qi9 D A [(h0, .inr (5, [.ref ai, .ref pu, .ref pa, .ref ga, .ref sc, .ref hi, .ref gr, .int (nI me), .int (nI dp), .int (bI up), .int (nI mi), .int (nI ru), .long wp, .long wl])), (hi, .inl (cI, 20, .inl (nA HI)))] (nI (rch HI ev 20 0))) args s 0 0 A) (F0 m 2 ls []) := by
    intro n
    induction n with
    | zero =>
      intro i hcnti hq H locs hP hD hS ls hl
      obtain rfl : 20 = i := by omega
      refine lv_iload_n hx hb dX5_reachOf_2 rfl (lv_at hl 2 rfl) ?_
      refine lv_bipush (v := nI 20) hx hb dX5_reachOf_3 (by decide) ?_
      refine ci_ge (tgt := 30) hx hb dX5_reachOf_5 (by decide) (nT (by omega)) (nT (by omega)) (fun c_5 => ?_) (fun c_5 => by omega)
      refine lv_bipush (v := nI 20) hx hb dX5_reachOf_30 (by decide) ?_
      exact fin_i hx hb hr hlocks hP hD hS (congrArg nI (by rw [hq]; rfl)) dX5_reachOf_32
    | succ n ih =>
      intro i hcnti hq H locs hP hD hS ls hl
      have hlti : i < 20 := by omega
      refine lv_iload_n hx hb dX5_reachOf_2 rfl (lv_at hl 2 rfl) ?_
      refine lv_bipush (v := nI 20) hx hb dX5_reachOf_3 (by decide) ?_
      refine ci_ge (tgt := 30) hx hb dX5_reachOf_5 (by decide) (nT (by omega)) (nT (by omega)) (fun c_5 => by omega) (fun c_5 => ?_)
      refine lv_aload_n hx hb dX5_reachOf_8 rfl (lv_at hl 0 rfl) ?_
      refine va_get (D := D) (ci := 5) (v := .ref hi) (C := RX5) (T := TX5) (N := 14) hx hb hts hinX5 hown hK hP 0 rfl rfl 5 (by decide) hf44 (fun _ h9 => h9) rfl dX5_reachOf_9 ?_
      refine lv_iload_n hx hb dX5_reachOf_12 rfl (lv_at hl 2 rfl) ?_
      refine ald_N hx hb hK hP 1 0 rfl rfl i rfl (by omega) (Nat.le_of_ble_eq_true rfl) dX5_reachOf_13 ?_
      refine lv_iload_n hx hb dX5_reachOf_14 rfl (lv_at hl 2 rfl) ?_
      refine lv_iload_n hx hb dX5_reachOf_15 rfl (lv_at hl 1 rfl) ?_
      have hbm := bmN_le (ki := i) (ev := ev) hlti hev
      refine cr_i (wc := []) (w1 := []) (ws2 := [(h0, .inr (5, [.ref ai, .ref pu, .ref pa, .ref ga, .ref sc, .ref hi, .ref gr, .int (nI me), .int (nI dp), .int (bI up), .int (nI mi), .int (nI ru), .long wp, .long wl])), (hi, .inl (cI, 20, .inl (nA HI)))]) hP hD hS hA [] rfl rfl rfl (va_runS (As := [.int (nI i), .int (nI ev)]) (rest := [.int (nI (HI i))]) ⟨hx, hb, hml, hown, hts⟩ (c_X5_layerOfBeam l D cI cJ cZ i ev (by omega) (by omega) H.size) (va_cwS 2 hts gX5_reachOf_X5_layerOfBeam rfl rfl rfl (by decide +kernel) ⟨Nat.le_of_ble_eq_true rfl, Nat.le_of_ble_eq_true rfl⟩) (pvS hT hP hD [] rfl rfl) rfl rfl hl.1 rfl (lv_room (Nat.le_of_ble_eq_true rfl)) dX5_reachOf_16 ⟨Nat.zero_le _, Nat.zero_le _⟩) (fun H locs hP hD hS => ?_)
      have hHi := hHI i hlti
      refine ci_le (tgt := 24) hx hb dX5_reachOf_19 (by decide) (nT (by omega)) (nT (by omega)) (fun c_19 => ?_) (fun c_19 => ?_)
      · refine lv_iinc (v := nI (i + 1)) (lv' := [(2, .int (nI (i + 1))), (0, .ref h0), (1, .int (nI ev))]) hx hb dX5_reachOf_24 hl (k := 2) rfl (n_inc i) (by decide) rfl (fun ls hl => ?_)
        refine lv_goto (tgt := 2) hx hb dX5_reachOf_27 (by decide) ?_
        exact ih (i + 1) (by omega) (by rw [hq, rch_st hlti, if_neg (by omega)]) H locs hP hD hS ls (lv_sub hl [1, 2, 0] rfl)
      · refine lv_iload_n hx hb dX5_reachOf_22 rfl (lv_at hl 2 rfl) ?_
        exact fin_i hx hb hr hlocks hP hD hS (congrArg nI (by rw [hq, rch_st hlti, if_pos (by omega)])) dX5_reachOf_23
  exact lp2 20 0 (by omega) rfl H locs hP hD hS ls (lv_sub hl [1, 2, 0] rfl)
set_option maxHeartbeats 4000000 in
set_option maxRecDepth 100000 in
theorem c_X5_echoInBeam (l : Launch) (D : va_G) (cI cJ cZ : ClassId) (h0 : Nat) (ai : Nat) (pu : Nat) (pa : Nat) (ga : Nat) (sc : Nat) (hi : Nat) (gr : Nat) (me : Nat) (dp : Nat) (up : Bool) (mi : Nat) (ru : Nat) (wp : Int64) (wl : Int64) (a1 : Nat) (C : Nat → Nat) (ki : Nat) (ev : Nat) (hki : ki < 20) (hev : ev < 4) (hme : me < 10) (sz : Nat) : Met l yX5_echoInBeam wsX5_echoInBeam ({ frames := 3, cells := 0, slots := 0, locals := 73 } : Room) (va_Pc [.ref h0, .int (nI ki), .int (nI ev)] (mPre D cI cJ cZ [(h0, .inr (5, [.ref ai, .ref pu, .ref pa, .ref ga, .ref sc, .ref hi, .ref gr, .int (nI me), .int (nI dp), .int (bI up), .int (nI mi), .int (nI ru), .long wp, .long wl])), (ai, .inr (0, [.ref a1])), (a1, .inl (cI, 600, .inl (nA C)))] sz)) (Ql9 D (va_A [(h0, .inr (5, [.ref ai, .ref pu, .ref pa, .ref ga, .ref sc, .ref hi, .ref gr, .int (nI me), .int (nI dp), .int (bI up), .int (nI mi), .int (nI ru), .long wp, .long wl])), (ai, .inr (0, [.ref a1])), (a1, .inl (cI, 600, .inl (nA C)))] sz) [(h0, .inr (5, [.ref ai, .ref pu, .ref pa, .ref ga, .ref sc, .ref hi, .ref gr, .int (nI me), .int (nI dp), .int (bI up), .int (nI mi), .int (nI ru), .long wp, .long wl])), (ai, .inr (0, [.ref a1])), (a1, .inl (cI, 600, .inl (nA C)))] (eb9 C me ki ev)) 0 0 (va_A [(h0, .inr (5, [.ref ai, .ref pu, .ref pa, .ref ga, .ref sc, .ref hi, .ref gr, .int (nI me), .int (nI dp), .int (bI up), .int (nI mi), .int (nI ru), .long wp, .long wl])), (ai, .inr (0, [.ref a1])), (a1, .inl (cI, 600, .inl (nA C)))] sz) := by
  refine Met.ofW (cc := cX5_echoInBeam) (maxL := 7) (ret := (some .long)) (by decide) rfl ?_
  intro p e s m args below meth c s₁ B hml hv
  obtain ⟨hargs, hsz, hP, hT, hD0⟩ := hv
  have hx := B.exec
  have hb := B.bytes
  have hr := B.returns
  have hts := atoms_spec (ws := wsX5_echoInBeam) B.pre
  have hown : s.vm.findClass RX5 = some m.cls := findClass_of_methodNamed B.named
  have hlocks := B.notSynchronized
  subst hsz
  have hK := hT.1
  have hD := hD0.self (sz := s.heap.size)
  generalize hAe : va_A [(h0, .inr (5, [.ref ai, .ref pu, .ref pa, .ref ga, .ref sc, .ref hi, .ref gr, .int (nI me), .int (nI dp), .int (bI up), .int (nI mi), .int (nI ru), .long wp, .long wl])), (ai, .inr (0, [.ref a1])), (a1, .inl (cI, 600, .inl (nA C)))] s.heap.size = A at hD ⊢
  have hA : ∀ q : Nat, s.heap.size ≤ q → A q := fun q h => by rw [← hAe]; exact Or.inr h
  have hS : va_S A s.heap s.heap [] := va_S.rf
  obtain ⟨H, hHe⟩ : ∃ H : Heap, H = s.heap := ⟨_, rfl⟩
  have hS : va_S A s.heap H [] := by rw [hHe]; exact va_S.rf
  rw [← hHe] at hP
  suffices K0 : W p l e (headSpec wsX5_echoInBeam ({ frames := 3, cells := 0, slots := 0, locals := 73 } : Room)).room s m args below meth c H [] 0 0 (MQ below (Ql9 D A [(h0, .inr (5, [.ref ai, .ref pu, .ref pa, .ref ga, .ref sc, .ref hi, .ref gr, .int (nI me), .int (nI dp), .int (bI up), .int (nI mi), .int (nI ru), .long wp, .long wl])), (ai, .inr (0, [.ref a1])), (a1, .inl (cI, 600, .inl (nA C)))] (eb9 C me ki ev)) args s 0 0 A) (entryFrame m args 7) by rw [hHe] at K0; exact K0
  refine W.eq (g2 := entryFrame m ([.ref h0, .int (nI ki), .int (nI ev)] : List Value).toArray 7) (by rw [hargs]) ?_
  have hl := lv_entry ([.ref h0, .int (nI ki), .int (nI ev)]) (n := 7) (Nat.le_of_ble_eq_true rfl)
  rw [lg_entry_eq]
  generalize (lg_sl ([.ref h0, .int (nI ki), .int (nI ev)]) ++ List.replicate (7 - (lg_sl ([.ref h0, .int (nI ki), .int (nI ev)])).length) Slot.unset).toArray = ls at hl ⊢
  have hl : lv_has ls 7 [(0, .ref h0), (1, .int (nI ki)), (2, .int (nI ev))] := hl
  generalize ([] : List Loc) = locs at hS ⊢
  have hinX5 : ∀ w ∈ wsX50, w ∈ wsX5_echoInBeam := by decide +kernel
  have hf12 := hts (.fieldLink RX5 12 "Brightband" "air" "LBrightband$Air;") (by decide +kernel)
  have hf52 := hts (.fieldLink RX5 52 "Brightband" "meltingLayer" "I") (by decide +kernel)
  have hc255 := hts (.constantLong RX5 255 (3)) (by decide +kernel)
  have hc253 := hts (.constantLong RX5 253 (4)) (by decide +kernel)
  have hbm := bmN_le (ki := ki) (ev := ev) hki hev
  have hph := phN_le (bmN ki ev) me
  refine lv_iload_n hx hb dX5_echoInBeam_0 rfl (lv_at hl 1 rfl) ?_
  refine lv_iload_n hx hb dX5_echoInBeam_1 rfl (lv_at hl 2 rfl) ?_
  refine cr_i (wc := []) (w1 := []) (ws2 := [(h0, .inr (5, [.ref ai, .ref pu, .ref pa, .ref ga, .ref sc, .ref hi, .ref gr, .int (nI me), .int (nI dp), .int (bI up), .int (nI mi), .int (nI ru), .long wp, .long wl])), (ai, .inr (0, [.ref a1])), (a1, .inl (cI, 600, .inl (nA C)))]) hP hD hS hA [] rfl rfl rfl (va_runS (As := [.int (nI ki), .int (nI ev)]) (rest := []) ⟨hx, hb, hml, hown, hts⟩ (c_X5_layerOfBeam l D cI cJ cZ ki ev (by omega) (by omega) H.size) (va_cwS 2 hts gX5_echoInBeam_X5_layerOfBeam rfl rfl rfl (by decide +kernel) ⟨Nat.le_of_ble_eq_true rfl, Nat.le_of_ble_eq_true rfl⟩) (pvS hT hP hD [] rfl rfl) rfl rfl hl.1 rfl (lv_room (Nat.le_of_ble_eq_true rfl)) dX5_echoInBeam_2 ⟨Nat.zero_le _, Nat.zero_le _⟩) (fun H locs hP hD hS => ?_)
  refine lv_istore_n (lv' := [(3, .int (nI (bmN ki ev))), (0, .ref h0), (1, .int (nI ki)), (2, .int (nI ev))]) hx hb dX5_echoInBeam_5 rfl hl (by decide) rfl (fun ls hl => ?_)
  refine lv_aload_n hx hb dX5_echoInBeam_6 rfl (lv_at hl 1 rfl) ?_
  refine va_get (D := D) (ci := 5) (v := .ref ai) (C := RX5) (T := TX5) (N := 14) hx hb hts hinX5 hown hK hP 0 rfl rfl 0 (by decide) hf12 (fun _ h9 => h9) rfl dX5_echoInBeam_7 ?_
  refine lv_iload_n hx hb dX5_echoInBeam_10 rfl (lv_at hl 2 rfl) ?_
  refine lv_iload_n hx hb dX5_echoInBeam_11 rfl (lv_at hl 0 rfl) ?_
  rcases Nat.lt_or_ge (bmN ki ev) 10 with hz | hz
  · refine cr_l (wc := [(ai, .inr (0, [.ref a1])), (a1, .inl (cI, 600, .inl (nA C)))]) (w1 := [(ai, .inr (0, [.ref a1])), (a1, .inl (cI, 600, .inl (nA C)))]) (ws2 := [(h0, .inr (5, [.ref ai, .ref pu, .ref pa, .ref ga, .ref sc, .ref hi, .ref gr, .int (nI me), .int (nI dp), .int (bI up), .int (nI mi), .int (nI ru), .long wp, .long wl])), (ai, .inr (0, [.ref a1])), (a1, .inl (cI, 600, .inl (nA C)))]) hP hD hS hA [1, 2] rfl rfl rfl (va_runV (As := [.int (nI ki), .int (nI (bmN ki ev))]) (rest := []) ⟨hx, hb, hml, hown, hts⟩ (c_X0_plainEcho_in l D cI cJ cZ ai a1 C ki (bmN ki ev) (by omega) (by omega) H.size) (cwV 2 hts gX5_echoInBeam_X0_plainEcho rfl rfl rfl (by decide +kernel) ⟨Nat.le_of_ble_eq_true rfl, Nat.le_of_ble_eq_true rfl⟩) (pvV hT hP hD [1, 2] rfl rfl 0 rfl rfl) rfl rfl hl.1 rfl (lv_room (Nat.le_of_ble_eq_true rfl)) dX5_echoInBeam_12 ⟨Nat.zero_le _, Nat.zero_le _⟩) (fun H locs hP hD hS => ?_)
    refine lv_lstore (lv' := [(4, .long (pe9 (fun zz => C (30 * ki + 3 * (bmN ki ev) + zz)) 3)), (3, .int (nI (bmN ki ev))), (0, .ref h0), (1, .int (nI ki)), (2, .int (nI ev))]) hx hb dX5_echoInBeam_15 hl (by decide) rfl (fun ls hl => ?_)
    refine lv_iload_n hx hb dX5_echoInBeam_17 rfl (lv_at hl 1 rfl) ?_
    refine lv_aload_n hx hb dX5_echoInBeam_18 rfl (lv_at hl 2 rfl) ?_
    refine va_get (D := D) (ci := 5) (v := .int (nI me)) (C := RX5) (T := TX5) (N := 14) hx hb hts hinX5 hown hK hP 0 rfl rfl 7 (by decide) hf52 (fun _ h9 => h9) rfl dX5_echoInBeam_19 ?_
    refine cr_i (wc := []) (w1 := []) (ws2 := [(h0, .inr (5, [.ref ai, .ref pu, .ref pa, .ref ga, .ref sc, .ref hi, .ref gr, .int (nI me), .int (nI dp), .int (bI up), .int (nI mi), .int (nI ru), .long wp, .long wl])), (ai, .inr (0, [.ref a1])), (a1, .inl (cI, 600, .inl (nA C)))]) hP hD hS hA [] rfl rfl rfl (va_runS (As := [.int (nI (bmN ki ev)), .int (nI me)]) (rest := []) ⟨hx, hb, hml, hown, hts⟩ (c_X5_phaseIn l D cI cJ cZ (bmN ki ev) me (by omega) (by omega) H.size) (va_cwS 2 hts gX5_echoInBeam_X5_phaseIn rfl rfl rfl (by decide +kernel) ⟨Nat.le_of_ble_eq_true rfl, Nat.le_of_ble_eq_true rfl⟩) (pvS hT hP hD [] rfl rfl) rfl rfl hl.1 rfl (lv_room (Nat.le_of_ble_eq_true rfl)) dX5_echoInBeam_22 ⟨Nat.zero_le _, Nat.zero_le _⟩) (fun H locs hP hD hS => ?_)
    refine lv_istore (lv' := [(6, .int (nI (phN (bmN ki ev) me))), (4, .long (pe9 (fun zz => C (30 * ki + 3 * (bmN ki ev) + zz)) 3)), (3, .int (nI (bmN ki ev))), (0, .ref h0), (1, .int (nI ki)), (2, .int (nI ev))]) hx hb dX5_echoInBeam_25 hl (by decide) rfl (fun ls hl => ?_)
    refine lv_iload hx hb dX5_echoInBeam_27 (lv_at hl 0 rfl) ?_
    refine c0_ne (tgt := 39) hx hb dX5_echoInBeam_29 (by decide) (nT (by omega)) (fun c_29 => ?_) (fun c_29 => ?_)
    · refine lv_iload hx hb dX5_echoInBeam_39 (lv_at hl 0 rfl) ?_
      refine lv_iconst (v := nI 1) hx hb dX5_echoInBeam_41 (by decide) ?_
      refine ci_ne (tgt := 54) hx hb dX5_echoInBeam_42 (by decide) (nT (by omega)) (nT (by omega)) (fun c_42 => ?_) (fun c_42 => ?_)
      · refine lv_lload hx hb dX5_echoInBeam_54 (lv_at hl 1 rfl) ?_
        exact fin_l hx hb hr hlocks hP hD hS ((by unfold eb9 plE; first | rw [if_pos (by omega), if_pos hz] | rw [if_neg (by omega), if_pos (by omega), if_pos hz] | rw [if_neg (by omega), if_neg (by omega), if_pos hz] | rw [if_pos (by omega), if_neg (by omega)] | rw [if_neg (by omega), if_pos (by omega), if_neg (by omega)] | rw [if_neg (by omega), if_neg (by omega), if_neg (by omega)])) dX5_echoInBeam_56
      · refine lv_lload hx hb dX5_echoInBeam_45 (lv_at hl 1 rfl) ?_
        refine lv_ldc2 (v := 3) hx hb hown hc255 dX5_echoInBeam_47 ?_
        refine lv_lmul hx hb dX5_echoInBeam_50 ?_
        refine lv_goto (tgt := 56) hx hb dX5_echoInBeam_51 (by decide) ?_
        exact fin_l hx hb hr hlocks hP hD hS ((by unfold eb9 plE; first | rw [if_pos (by omega), if_pos hz] | rw [if_neg (by omega), if_pos (by omega), if_pos hz] | rw [if_neg (by omega), if_neg (by omega), if_pos hz] | rw [if_pos (by omega), if_neg (by omega)] | rw [if_neg (by omega), if_pos (by omega), if_neg (by omega)] | rw [if_neg (by omega), if_neg (by omega), if_neg (by omega)])) dX5_echoInBeam_56
    · refine lv_lload hx hb dX5_echoInBeam_32 (lv_at hl 1 rfl) ?_
      refine lv_ldc2 (v := 4) hx hb hown hc253 dX5_echoInBeam_34 ?_
      refine lv_ldiv hx hb dX5_echoInBeam_37 (by decide) ?_
      exact fin_l hx hb hr hlocks hP hD hS ((by unfold eb9 plE; first | rw [if_pos (by omega), if_pos hz] | rw [if_neg (by omega), if_pos (by omega), if_pos hz] | rw [if_neg (by omega), if_neg (by omega), if_pos hz] | rw [if_pos (by omega), if_neg (by omega)] | rw [if_neg (by omega), if_pos (by omega), if_neg (by omega)] | rw [if_neg (by omega), if_neg (by omega), if_neg (by omega)])) dX5_echoInBeam_38
  · refine cr_l (wc := [(ai, .inr (0, [.ref a1])), (a1, .inl (cI, 600, .inl (nA C)))]) (w1 := [(ai, .inr (0, [.ref a1])), (a1, .inl (cI, 600, .inl (nA C)))]) (ws2 := [(h0, .inr (5, [.ref ai, .ref pu, .ref pa, .ref ga, .ref sc, .ref hi, .ref gr, .int (nI me), .int (nI dp), .int (bI up), .int (nI mi), .int (nI ru), .long wp, .long wl])), (ai, .inr (0, [.ref a1])), (a1, .inl (cI, 600, .inl (nA C)))]) hP hD hS hA [1, 2] rfl rfl rfl (va_runV (As := [.int (nI ki), .int (nI (bmN ki ev))]) (rest := []) ⟨hx, hb, hml, hown, hts⟩ (c_X0_plainEcho_out l D cI cJ cZ ai a1 C ki (bmN ki ev) (by omega) (by omega) (by omega) H.size) (cwV 2 hts gX5_echoInBeam_X0_plainEcho rfl rfl rfl (by decide +kernel) ⟨Nat.le_of_ble_eq_true rfl, Nat.le_of_ble_eq_true rfl⟩) (pvV hT hP hD [1, 2] rfl rfl 0 rfl rfl) rfl rfl hl.1 rfl (lv_room (Nat.le_of_ble_eq_true rfl)) dX5_echoInBeam_12 ⟨Nat.zero_le _, Nat.zero_le _⟩) (fun H locs hP hD hS => ?_)
    refine lv_lstore (lv' := [(4, .long (pe9 (fun _ => 0) 3)), (3, .int (nI (bmN ki ev))), (0, .ref h0), (1, .int (nI ki)), (2, .int (nI ev))]) hx hb dX5_echoInBeam_15 hl (by decide) rfl (fun ls hl => ?_)
    refine lv_iload_n hx hb dX5_echoInBeam_17 rfl (lv_at hl 1 rfl) ?_
    refine lv_aload_n hx hb dX5_echoInBeam_18 rfl (lv_at hl 2 rfl) ?_
    refine va_get (D := D) (ci := 5) (v := .int (nI me)) (C := RX5) (T := TX5) (N := 14) hx hb hts hinX5 hown hK hP 0 rfl rfl 7 (by decide) hf52 (fun _ h9 => h9) rfl dX5_echoInBeam_19 ?_
    refine cr_i (wc := []) (w1 := []) (ws2 := [(h0, .inr (5, [.ref ai, .ref pu, .ref pa, .ref ga, .ref sc, .ref hi, .ref gr, .int (nI me), .int (nI dp), .int (bI up), .int (nI mi), .int (nI ru), .long wp, .long wl])), (ai, .inr (0, [.ref a1])), (a1, .inl (cI, 600, .inl (nA C)))]) hP hD hS hA [] rfl rfl rfl (va_runS (As := [.int (nI (bmN ki ev)), .int (nI me)]) (rest := []) ⟨hx, hb, hml, hown, hts⟩ (c_X5_phaseIn l D cI cJ cZ (bmN ki ev) me (by omega) (by omega) H.size) (va_cwS 2 hts gX5_echoInBeam_X5_phaseIn rfl rfl rfl (by decide +kernel) ⟨Nat.le_of_ble_eq_true rfl, Nat.le_of_ble_eq_true rfl⟩) (pvS hT hP hD [] rfl rfl) rfl rfl hl.1 rfl (lv_room (Nat.le_of_ble_eq_true rfl)) dX5_echoInBeam_22 ⟨Nat.zero_le _, Nat.zero_le _⟩) (fun H locs hP hD hS => ?_)
    refine lv_istore (lv' := [(6, .int (nI (phN (bmN ki ev) me))), (4, .long (pe9 (fun _ => 0) 3)), (3, .int (nI (bmN ki ev))), (0, .ref h0), (1, .int (nI ki)), (2, .int (nI ev))]) hx hb dX5_echoInBeam_25 hl (by decide) rfl (fun ls hl => ?_)
    refine lv_iload hx hb dX5_echoInBeam_27 (lv_at hl 0 rfl) ?_
    refine c0_ne (tgt := 39) hx hb dX5_echoInBeam_29 (by decide) (nT (by omega)) (fun c_29 => ?_) (fun c_29 => ?_)
    · refine lv_iload hx hb dX5_echoInBeam_39 (lv_at hl 0 rfl) ?_
      refine lv_iconst (v := nI 1) hx hb dX5_echoInBeam_41 (by decide) ?_
      refine ci_ne (tgt := 54) hx hb dX5_echoInBeam_42 (by decide) (nT (by omega)) (nT (by omega)) (fun c_42 => ?_) (fun c_42 => ?_)
      · refine lv_lload hx hb dX5_echoInBeam_54 (lv_at hl 1 rfl) ?_
        exact fin_l hx hb hr hlocks hP hD hS ((by unfold eb9 plE; first | rw [if_pos (by omega), if_pos hz] | rw [if_neg (by omega), if_pos (by omega), if_pos hz] | rw [if_neg (by omega), if_neg (by omega), if_pos hz] | rw [if_pos (by omega), if_neg (by omega)] | rw [if_neg (by omega), if_pos (by omega), if_neg (by omega)] | rw [if_neg (by omega), if_neg (by omega), if_neg (by omega)])) dX5_echoInBeam_56
      · refine lv_lload hx hb dX5_echoInBeam_45 (lv_at hl 1 rfl) ?_
        refine lv_ldc2 (v := 3) hx hb hown hc255 dX5_echoInBeam_47 ?_
        refine lv_lmul hx hb dX5_echoInBeam_50 ?_
        refine lv_goto (tgt := 56) hx hb dX5_echoInBeam_51 (by decide) ?_
        exact fin_l hx hb hr hlocks hP hD hS ((by unfold eb9 plE; first | rw [if_pos (by omega), if_pos hz] | rw [if_neg (by omega), if_pos (by omega), if_pos hz] | rw [if_neg (by omega), if_neg (by omega), if_pos hz] | rw [if_pos (by omega), if_neg (by omega)] | rw [if_neg (by omega), if_pos (by omega), if_neg (by omega)] | rw [if_neg (by omega), if_neg (by omega), if_neg (by omega)])) dX5_echoInBeam_56
    · refine lv_lload hx hb dX5_echoInBeam_32 (lv_at hl 1 rfl) ?_
      refine lv_ldc2 (v := 4) hx hb hown hc253 dX5_echoInBeam_34 ?_
      refine lv_ldiv hx hb dX5_echoInBeam_37 (by decide) ?_
      exact fin_l hx hb hr hlocks hP hD hS ((by unfold eb9 plE; first | rw [if_pos (by omega), if_pos hz] | rw [if_neg (by omega), if_pos (by omega), if_pos hz] | rw [if_neg (by omega), if_neg (by omega), if_pos hz] | rw [if_pos (by omega), if_neg (by omega)] | rw [if_neg (by omega), if_pos (by omega), if_neg (by omega)] | rw [if_neg (by omega), if_neg (by omega), if_neg (by omega)])) dX5_echoInBeam_38
set_option maxHeartbeats 4000000 in
set_option maxRecDepth 100000 in
theorem c_X5_echo (l : Launch) (D : va_G) (cI cJ cZ : ClassId) (h0 : Nat) (ai : Nat) (pu : Nat) (pa : Nat) (ga : Nat) (sc : Nat) (hi : Nat) (gr : Nat) (me : Nat) (dp : Nat) (up : Bool) (mi : Nat) (ru : Nat) (wp : Int64) (wl : Int64) (HI : Nat → Nat) (a1 : Nat) (C : Nat → Nat) (ki : Nat) (ev : Nat) (hki : ki < 20) (hev : ev < 4) (hme : me < 10) (hHI : ∀ k, k < 20 → HI k ≤ 9) (sz : Nat) : Met l yX5_echo wsX5_echo ({ frames := 4, cells := 0, slots := 0, locals := 99 } : Room) (va_Pc [.ref h0, .int (nI ki), .int (nI ev)] (mPre D cI cJ cZ [(h0, .inr (5, [.ref ai, .ref pu, .ref pa, .ref ga, .ref sc, .ref hi, .ref gr, .int (nI me), .int (nI dp), .int (bI up), .int (nI mi), .int (nI ru), .long wp, .long wl])), (hi, .inl (cI, 20, .inl (nA HI))), (ai, .inr (0, [.ref a1])), (a1, .inl (cI, 600, .inl (nA C)))] sz)) (Ql9 D (va_A [(h0, .inr (5, [.ref ai, .ref pu, .ref pa, .ref ga, .ref sc, .ref hi, .ref gr, .int (nI me), .int (nI dp), .int (bI up), .int (nI mi), .int (nI ru), .long wp, .long wl])), (hi, .inl (cI, 20, .inl (nA HI))), (ai, .inr (0, [.ref a1])), (a1, .inl (cI, 600, .inl (nA C)))] sz) [(h0, .inr (5, [.ref ai, .ref pu, .ref pa, .ref ga, .ref sc, .ref hi, .ref gr, .int (nI me), .int (nI dp), .int (bI up), .int (nI mi), .int (nI ru), .long wp, .long wl])), (hi, .inl (cI, 20, .inl (nA HI))), (ai, .inr (0, [.ref a1])), (a1, .inl (cI, 600, .inl (nA C)))] (if ki < rch HI ev 20 0 then eb9 C me ki ev else -1)) 0 0 (va_A [(h0, .inr (5, [.ref ai, .ref pu, .ref pa, .ref ga, .ref sc, .ref hi, .ref gr, .int (nI me), .int (nI dp), .int (bI up), .int (nI mi), .int (nI ru), .long wp, .long wl])), (hi, .inl (cI, 20, .inl (nA HI))), (ai, .inr (0, [.ref a1])), (a1, .inl (cI, 600, .inl (nA C)))] sz) := by
  refine Met.ofW (cc := cX5_echo) (maxL := 3) (ret := (some .long)) (by decide) rfl ?_
  intro p e s m args below meth c s₁ B hml hv
  obtain ⟨hargs, hsz, hP, hT, hD0⟩ := hv
  have hx := B.exec
  have hb := B.bytes
  have hr := B.returns
  have hts := atoms_spec (ws := wsX5_echo) B.pre
  have hown : s.vm.findClass RX5 = some m.cls := findClass_of_methodNamed B.named
  have hlocks := B.notSynchronized
  subst hsz
  have hK := hT.1
  have hD := hD0.self (sz := s.heap.size)
  generalize hAe : va_A [(h0, .inr (5, [.ref ai, .ref pu, .ref pa, .ref ga, .ref sc, .ref hi, .ref gr, .int (nI me), .int (nI dp), .int (bI up), .int (nI mi), .int (nI ru), .long wp, .long wl])), (hi, .inl (cI, 20, .inl (nA HI))), (ai, .inr (0, [.ref a1])), (a1, .inl (cI, 600, .inl (nA C)))] s.heap.size = A at hD ⊢
  have hA : ∀ q : Nat, s.heap.size ≤ q → A q := fun q h => by rw [← hAe]; exact Or.inr h
  have hS : va_S A s.heap s.heap [] := va_S.rf
  obtain ⟨H, hHe⟩ : ∃ H : Heap, H = s.heap := ⟨_, rfl⟩
  have hS : va_S A s.heap H [] := by rw [hHe]; exact va_S.rf
  rw [← hHe] at hP
  suffices K0 : W p l e (headSpec wsX5_echo ({ frames := 4, cells := 0, slots := 0, locals := 99 } : Room)).room s m args below meth c H [] 0 0 (MQ below (Ql9 D A [(h0, .inr (5, [.ref ai, .ref pu, .ref pa, .ref ga, .ref sc, .ref hi, .ref gr, .int (nI me), .int (nI dp), .int (bI up), .int (nI mi), .int (nI ru), .long wp, .long wl])), (hi, .inl (cI, 20, .inl (nA HI))), (ai, .inr (0, [.ref a1])), (a1, .inl (cI, 600, .inl (nA C)))] (if ki < rch HI ev 20 0 then eb9 C me ki ev else -1)) args s 0 0 A) (entryFrame m args 3) by rw [hHe] at K0; exact K0
  refine W.eq (g2 := entryFrame m ([.ref h0, .int (nI ki), .int (nI ev)] : List Value).toArray 3) (by rw [hargs]) ?_
  have hl := lv_entry ([.ref h0, .int (nI ki), .int (nI ev)]) (n := 3) (Nat.le_of_ble_eq_true rfl)
  rw [lg_entry_eq]
  generalize (lg_sl ([.ref h0, .int (nI ki), .int (nI ev)]) ++ List.replicate (3 - (lg_sl ([.ref h0, .int (nI ki), .int (nI ev)])).length) Slot.unset).toArray = ls at hl ⊢
  have hl : lv_has ls 3 [(0, .ref h0), (1, .int (nI ki)), (2, .int (nI ev))] := hl
  generalize ([] : List Loc) = locs at hS ⊢
  have hc156 := hts (.constantLong RX5 156 (-1)) (by decide +kernel)
  refine lv_iload_n hx hb dX5_echo_0 rfl (lv_at hl 1 rfl) ?_
  refine cr_v (wc := []) (w1 := []) (ws2 := [(h0, .inr (5, [.ref ai, .ref pu, .ref pa, .ref ga, .ref sc, .ref hi, .ref gr, .int (nI me), .int (nI dp), .int (bI up), .int (nI mi), .int (nI ru), .long wp, .long wl])), (hi, .inl (cI, 20, .inl (nA HI))), (ai, .inr (0, [.ref a1])), (a1, .inl (cI, 600, .inl (nA C)))]) hP hD hS hA [] rfl rfl rfl (va_runS (As := [.int (nI ki)]) (rest := []) ⟨hx, hb, hml, hown, hts⟩ (c_X5_requireKilometre l D cI cJ cZ ki (by omega) H.size) (va_cwS 1 hts gX5_echo_X5_requireKilometre rfl rfl rfl (by decide +kernel) ⟨Nat.le_of_ble_eq_true rfl, Nat.le_of_ble_eq_true rfl⟩) (pvS hT hP hD [] rfl rfl) rfl rfl hl.1 rfl (lv_room (Nat.le_of_ble_eq_true rfl)) dX5_echo_1 ⟨Nat.zero_le _, Nat.zero_le _⟩) (fun H locs hP hD hS => ?_)
  refine lv_iload_n hx hb dX5_echo_4 rfl (lv_at hl 2 rfl) ?_
  refine lv_iconst (v := nI 0) hx hb dX5_echo_5 (by decide) ?_
  refine lv_iconst (v := nI 3) hx hb dX5_echo_6 (by decide) ?_
  refine cr_v (wc := []) (w1 := []) (ws2 := [(h0, .inr (5, [.ref ai, .ref pu, .ref pa, .ref ga, .ref sc, .ref hi, .ref gr, .int (nI me), .int (nI dp), .int (bI up), .int (nI mi), .int (nI ru), .long wp, .long wl])), (hi, .inl (cI, 20, .inl (nA HI))), (ai, .inr (0, [.ref a1])), (a1, .inl (cI, 600, .inl (nA C)))]) hP hD hS hA [] rfl rfl rfl (va_runS (As := [.int (nI ev), .int (nI 0), .int (nI 3)]) (rest := []) ⟨hx, hb, hml, hown, hts⟩ (c_X5_requireRange l D cI cJ cZ ev 0 3 (by omega) (by omega) (by omega) H.size) (va_cwS 3 hts gX5_echo_X5_requireRange rfl rfl rfl (by decide +kernel) ⟨Nat.le_of_ble_eq_true rfl, Nat.le_of_ble_eq_true rfl⟩) (pvS hT hP hD [] rfl rfl) rfl rfl hl.1 rfl (lv_room (Nat.le_of_ble_eq_true rfl)) dX5_echo_7 ⟨Nat.zero_le _, Nat.zero_le _⟩) (fun H locs hP hD hS => ?_)
  refine lv_iload_n hx hb dX5_echo_10 rfl (lv_at hl 1 rfl) ?_
  refine lv_aload_n hx hb dX5_echo_11 rfl (lv_at hl 0 rfl) ?_
  refine lv_iload_n hx hb dX5_echo_12 rfl (lv_at hl 2 rfl) ?_
  refine cr_i (wc := [(h0, .inr (5, [.ref ai, .ref pu, .ref pa, .ref ga, .ref sc, .ref hi, .ref gr, .int (nI me), .int (nI dp), .int (bI up), .int (nI mi), .int (nI ru), .long wp, .long wl])), (hi, .inl (cI, 20, .inl (nA HI)))]) (w1 := [(h0, .inr (5, [.ref ai, .ref pu, .ref pa, .ref ga, .ref sc, .ref hi, .ref gr, .int (nI me), .int (nI dp), .int (bI up), .int (nI mi), .int (nI ru), .long wp, .long wl])), (hi, .inl (cI, 20, .inl (nA HI)))]) (ws2 := [(h0, .inr (5, [.ref ai, .ref pu, .ref pa, .ref ga, .ref sc, .ref hi, .ref gr, .int (nI me), .int (nI dp), .int (bI up), .int (nI mi), .int (nI ru), .long wp, .long wl])), (hi, .inl (cI, 20, .inl (nA HI))), (ai, .inr (0, [.ref a1])), (a1, .inl (cI, 600, .inl (nA C)))]) hP hD hS hA [0, 1] rfl rfl rfl (va_runV (As := [.int (nI ev)]) (rest := [.int (nI ki)]) ⟨hx, hb, hml, hown, hts⟩ (c_X5_reachOf l D cI cJ cZ h0 ai pu pa ga sc hi gr me dp up mi ru wp wl HI ev (by omega) hHI H.size) (cwV 1 hts gX5_echo_X5_reachOf rfl rfl rfl (by decide +kernel) ⟨Nat.le_of_ble_eq_true rfl, Nat.le_of_ble_eq_true rfl⟩) (pvV hT hP hD [0, 1] rfl rfl 0 rfl rfl) rfl rfl hl.1 rfl (lv_room (Nat.le_of_ble_eq_true rfl)) dX5_echo_13 ⟨Nat.zero_le _, Nat.zero_le _⟩) (fun H locs hP hD hS => ?_)
  have hrc := rch_le HI ev 20 0
  refine ci_ge (tgt := 28) hx hb dX5_echo_16 (by decide) (nT (by omega)) (nT (by omega)) (fun c_16 => ?_) (fun c_16 => ?_)
  · refine lv_ldc2 (v := -1) hx hb hown hc156 dX5_echo_28 ?_
    exact fin_l hx hb hr hlocks hP hD hS ((by first | rw [if_pos (by omega)] | rw [if_neg (by omega)])) dX5_echo_31
  · refine lv_aload_n hx hb dX5_echo_19 rfl (lv_at hl 0 rfl) ?_
    refine lv_iload_n hx hb dX5_echo_20 rfl (lv_at hl 1 rfl) ?_
    refine lv_iload_n hx hb dX5_echo_21 rfl (lv_at hl 2 rfl) ?_
    refine cr_l (wc := [(h0, .inr (5, [.ref ai, .ref pu, .ref pa, .ref ga, .ref sc, .ref hi, .ref gr, .int (nI me), .int (nI dp), .int (bI up), .int (nI mi), .int (nI ru), .long wp, .long wl])), (ai, .inr (0, [.ref a1])), (a1, .inl (cI, 600, .inl (nA C)))]) (w1 := [(h0, .inr (5, [.ref ai, .ref pu, .ref pa, .ref ga, .ref sc, .ref hi, .ref gr, .int (nI me), .int (nI dp), .int (bI up), .int (nI mi), .int (nI ru), .long wp, .long wl])), (ai, .inr (0, [.ref a1])), (a1, .inl (cI, 600, .inl (nA C)))]) (ws2 := [(h0, .inr (5, [.ref ai, .ref pu, .ref pa, .ref ga, .ref sc, .ref hi, .ref gr, .int (nI me), .int (nI dp), .int (bI up), .int (nI mi), .int (nI ru), .long wp, .long wl])), (hi, .inl (cI, 20, .inl (nA HI))), (ai, .inr (0, [.ref a1])), (a1, .inl (cI, 600, .inl (nA C)))]) hP hD hS hA [0, 2, 3] rfl rfl rfl (va_runV (As := [.int (nI ki), .int (nI ev)]) (rest := []) ⟨hx, hb, hml, hown, hts⟩ (c_X5_echoInBeam l D cI cJ cZ h0 ai pu pa ga sc hi gr me dp up mi ru wp wl a1 C ki ev (by omega) (by omega) (by omega) H.size) (cwV 2 hts gX5_echo_X5_echoInBeam rfl rfl rfl (by decide +kernel) ⟨Nat.le_of_ble_eq_true rfl, Nat.le_of_ble_eq_true rfl⟩) (pvV hT hP hD [0, 2, 3] rfl rfl 0 rfl rfl) rfl rfl hl.1 rfl (lv_room (Nat.le_of_ble_eq_true rfl)) dX5_echo_22 ⟨Nat.zero_le _, Nat.zero_le _⟩) (fun H locs hP hD hS => ?_)
    refine lv_goto (tgt := 31) hx hb dX5_echo_25 (by decide) ?_
    exact fin_l hx hb hr hlocks hP hD hS ((by first | rw [if_pos (by omega)] | rw [if_neg (by omega)])) dX5_echo_31
set_option maxHeartbeats 4000000 in
set_option maxRecDepth 100000 in
theorem c_X5_scan (l : Launch) (D : va_G) (cI cJ cZ : ClassId) (h0 : Nat) (ai : Nat) (pu : Nat) (pa : Nat) (ga : Nat) (sc : Nat) (hi : Nat) (gr : Nat) (me : Nat) (dp : Nat) (up : Bool) (mi : Nat) (ru : Nat) (wp : Int64) (wl : Int64) (HI : Nat → Nat) (a1 : Nat) (C : Nat → Nat) (s1 : Nat) (s2 : Nat) (EC : Nat → Int64) (RU : Nat → Nat) (sm : Nat) (ev : Nat) (hev : ev < 4) (hme : me < 10) (hsm : sm < 30) (hHI : ∀ k, k < 20 → HI k ≤ 9) (sz : Nat) : Met l yX5_scan wsX5_scan ({ frames := 4, cells := 0, slots := 0, locals := 99 } : Room) (va_Pc [.ref h0, .int (nI ev)] (mPre D cI cJ cZ [(h0, .inr (5, [.ref ai, .ref pu, .ref pa, .ref ga, .ref sc, .ref hi, .ref gr, .int (nI me), .int (nI dp), .int (bI up), .int (nI mi), .int (nI ru), .long wp, .long wl])), (hi, .inl (cI, 20, .inl (nA HI))), (ai, .inr (0, [.ref a1])), (a1, .inl (cI, 600, .inl (nA C))), (sc, .inr (4, [.ref s1, .ref s2, .int (nI sm)])), (s1, .inl (cJ, 600, .inr (.inl EC))), (s2, .inl (cI, 30, .inl (nA RU)))] sz)) (Qi9 D (va_A [(h0, .inr (5, [.ref ai, .ref pu, .ref pa, .ref ga, .ref sc, .ref hi, .ref gr, .int (nI me), .int (nI dp), .int (bI up), .int (nI mi), .int (nI ru), .long wp, .long wl])), (hi, .inl (cI, 20, .inl (nA HI))), (ai, .inr (0, [.ref a1])), (a1, .inl (cI, 600, .inl (nA C))), (sc, .inr (4, [.ref s1, .ref s2, .int (nI sm)])), (s1, .inl (cJ, 600, .inr (.inl EC))), (s2, .inl (cI, 30, .inl (nA RU)))] sz) [(h0, .inr (5, [.ref ai, .ref pu, .ref pa, .ref ga, .ref sc, .ref hi, .ref gr, .int (nI me), .int (nI dp), .int (bI up), .int (nI mi), .int (nI ru), .long wp, .long wl])), (hi, .inl (cI, 20, .inl (nA HI))), (ai, .inr (0, [.ref a1])), (a1, .inl (cI, 600, .inl (nA C))), (sc, .inr (4, [.ref s1, .ref s2, .int (nI (sm + 1))])), (s1, .inl (cJ, 600, .inr (.inl (scE C me ev EC sm (rch HI ev 20 0))))), (s2, .inl (cI, 30, .inl (nA (uN RU sm ru))))] (nI (rch HI ev 20 0))) 0 0 (va_A [(h0, .inr (5, [.ref ai, .ref pu, .ref pa, .ref ga, .ref sc, .ref hi, .ref gr, .int (nI me), .int (nI dp), .int (bI up), .int (nI mi), .int (nI ru), .long wp, .long wl])), (hi, .inl (cI, 20, .inl (nA HI))), (ai, .inr (0, [.ref a1])), (a1, .inl (cI, 600, .inl (nA C))), (sc, .inr (4, [.ref s1, .ref s2, .int (nI sm)])), (s1, .inl (cJ, 600, .inr (.inl EC))), (s2, .inl (cI, 30, .inl (nA RU)))] sz) := by
  refine Met.ofW (cc := cX5_scan) (maxL := 4) (ret := (some .int)) (by decide) rfl ?_
  intro p e s m args below meth c s₁ B hml hv
  obtain ⟨hargs, hsz, hP, hT, hD0⟩ := hv
  have hx := B.exec
  have hb := B.bytes
  have hr := B.returns
  have hts := atoms_spec (ws := wsX5_scan) B.pre
  have hown : s.vm.findClass RX5 = some m.cls := findClass_of_methodNamed B.named
  have hlocks := B.notSynchronized
  subst hsz
  have hK := hT.1
  have hD := hD0.self (sz := s.heap.size)
  generalize hAe : va_A [(h0, .inr (5, [.ref ai, .ref pu, .ref pa, .ref ga, .ref sc, .ref hi, .ref gr, .int (nI me), .int (nI dp), .int (bI up), .int (nI mi), .int (nI ru), .long wp, .long wl])), (hi, .inl (cI, 20, .inl (nA HI))), (ai, .inr (0, [.ref a1])), (a1, .inl (cI, 600, .inl (nA C))), (sc, .inr (4, [.ref s1, .ref s2, .int (nI sm)])), (s1, .inl (cJ, 600, .inr (.inl EC))), (s2, .inl (cI, 30, .inl (nA RU)))] s.heap.size = A at hD ⊢
  have hA : ∀ q : Nat, s.heap.size ≤ q → A q := fun q h => by rw [← hAe]; exact Or.inr h
  have hS : va_S A s.heap s.heap [] := va_S.rf
  obtain ⟨H, hHe⟩ : ∃ H : Heap, H = s.heap := ⟨_, rfl⟩
  have hS : va_S A s.heap H [] := by rw [hHe]; exact va_S.rf
  rw [← hHe] at hP
  suffices K0 : W p l e (headSpec wsX5_scan ({ frames := 4, cells := 0, slots := 0, locals := 99 } : Room)).room s m args below meth c H [] 0 0 (MQ below (Qi9 D A [(h0, .inr (5, [.ref ai, .ref pu, .ref pa, .ref ga, .ref sc, .ref hi, .ref gr, .int (nI me), .int (nI dp), .int (bI up), .int (nI mi), .int (nI ru), .long wp, .long wl])), (hi, .inl (cI, 20, .inl (nA HI))), (ai, .inr (0, [.ref a1])), (a1, .inl (cI, 600, .inl (nA C))), (sc, .inr (4, [.ref s1, .ref s2, .int (nI (sm + 1))])), (s1, .inl (cJ, 600, .inr (.inl (scE C me ev EC sm (rch HI ev 20 0))))), (s2, .inl (cI, 30, .inl (nA (uN RU sm ru))))] (nI (rch HI ev 20 0))) args s 0 0 A) (entryFrame m args 4) by rw [hHe] at K0; exact K0
  refine W.eq (g2 := entryFrame m ([.ref h0, .int (nI ev)] : List Value).toArray 4) (by rw [hargs]) ?_
  have hl := lv_entry ([.ref h0, .int (nI ev)]) (n := 4) (Nat.le_of_ble_eq_true rfl)
  rw [lg_entry_eq]
  generalize (lg_sl ([.ref h0, .int (nI ev)]) ++ List.replicate (4 - (lg_sl ([.ref h0, .int (nI ev)])).length) Slot.unset).toArray = ls at hl ⊢
  have hl : lv_has ls 4 [(0, .ref h0), (1, .int (nI ev))] := hl
  generalize ([] : List Loc) = locs at hS ⊢
  have hinX5 : ∀ w ∈ wsX50, w ∈ wsX5_scan := by decide +kernel
  have hf40 := hts (.fieldLink RX5 40 "Brightband" "scans" "LBrightband$Scans;") (by decide +kernel)
  have hinX4 : ∀ w ∈ wsX40, w ∈ wsX5_scan := by decide +kernel
  have hf66 := hts (.fieldLink RX5 66 "Brightband" "ruleNow" "I") (by decide +kernel)
  refine lv_iload_n hx hb dX5_scan_0 rfl (lv_at hl 1 rfl) ?_
  refine lv_iconst (v := nI 0) hx hb dX5_scan_1 (by decide) ?_
  refine lv_iconst (v := nI 3) hx hb dX5_scan_2 (by decide) ?_
  refine cr_v (wc := []) (w1 := []) (ws2 := [(h0, .inr (5, [.ref ai, .ref pu, .ref pa, .ref ga, .ref sc, .ref hi, .ref gr, .int (nI me), .int (nI dp), .int (bI up), .int (nI mi), .int (nI ru), .long wp, .long wl])), (hi, .inl (cI, 20, .inl (nA HI))), (ai, .inr (0, [.ref a1])), (a1, .inl (cI, 600, .inl (nA C))), (sc, .inr (4, [.ref s1, .ref s2, .int (nI sm)])), (s1, .inl (cJ, 600, .inr (.inl EC))), (s2, .inl (cI, 30, .inl (nA RU)))]) hP hD hS hA [] rfl rfl rfl (va_runS (As := [.int (nI ev), .int (nI 0), .int (nI 3)]) (rest := []) ⟨hx, hb, hml, hown, hts⟩ (c_X5_requireRange l D cI cJ cZ ev 0 3 (by omega) (by omega) (by omega) H.size) (va_cwS 3 hts gX5_scan_X5_requireRange rfl rfl rfl (by decide +kernel) ⟨Nat.le_of_ble_eq_true rfl, Nat.le_of_ble_eq_true rfl⟩) (pvS hT hP hD [] rfl rfl) rfl rfl hl.1 rfl (lv_room (Nat.le_of_ble_eq_true rfl)) dX5_scan_3 ⟨Nat.zero_le _, Nat.zero_le _⟩) (fun H locs hP hD hS => ?_)
  refine lv_aload_n hx hb dX5_scan_6 rfl (lv_at hl 0 rfl) ?_
  refine va_get (D := D) (ci := 5) (v := .ref sc) (C := RX5) (T := TX5) (N := 14) hx hb hts hinX5 hown hK hP 0 rfl rfl 4 (by decide) hf40 (fun _ h9 => h9) rfl dX5_scan_7 ?_
  refine va_getN (D := D) (ci := 4) (v := .int (nI sm)) (C := RX4) (T := TX4) (N := 3) hx hb hts hinX4 hown hK hP 4 rfl rfl 2 (by decide) (va_Nw.use rfl hT.2.2.2.2.2.2.2.2.2.1) (fun _ h9 => h9) rfl dX5_scan_10 ?_
  refine lv_bipush (v := nI 30) hx hb dX5_scan_13 (by decide) ?_
  refine ci_lt (tgt := 28) hx hb dX5_scan_15 (by decide) (nT (by omega)) (nT (by omega)) (fun c_15 => ?_) (fun c_15 => by omega)
  refine lv_aload_n hx hb dX5_scan_28 rfl (lv_at hl 0 rfl) ?_
  refine lv_iload_n hx hb dX5_scan_29 rfl (lv_at hl 1 rfl) ?_
  refine cr_i (wc := [(h0, .inr (5, [.ref ai, .ref pu, .ref pa, .ref ga, .ref sc, .ref hi, .ref gr, .int (nI me), .int (nI dp), .int (bI up), .int (nI mi), .int (nI ru), .long wp, .long wl])), (hi, .inl (cI, 20, .inl (nA HI)))]) (w1 := [(h0, .inr (5, [.ref ai, .ref pu, .ref pa, .ref ga, .ref sc, .ref hi, .ref gr, .int (nI me), .int (nI dp), .int (bI up), .int (nI mi), .int (nI ru), .long wp, .long wl])), (hi, .inl (cI, 20, .inl (nA HI)))]) (ws2 := [(h0, .inr (5, [.ref ai, .ref pu, .ref pa, .ref ga, .ref sc, .ref hi, .ref gr, .int (nI me), .int (nI dp), .int (bI up), .int (nI mi), .int (nI ru), .long wp, .long wl])), (hi, .inl (cI, 20, .inl (nA HI))), (ai, .inr (0, [.ref a1])), (a1, .inl (cI, 600, .inl (nA C))), (sc, .inr (4, [.ref s1, .ref s2, .int (nI sm)])), (s1, .inl (cJ, 600, .inr (.inl EC))), (s2, .inl (cI, 30, .inl (nA RU)))]) hP hD hS hA [0, 1] rfl rfl rfl (va_runV (As := [.int (nI ev)]) (rest := []) ⟨hx, hb, hml, hown, hts⟩ (c_X5_reachOf l D cI cJ cZ h0 ai pu pa ga sc hi gr me dp up mi ru wp wl HI ev (by omega) hHI H.size) (cwV 1 hts gX5_scan_X5_reachOf rfl rfl rfl (by decide +kernel) ⟨Nat.le_of_ble_eq_true rfl, Nat.le_of_ble_eq_true rfl⟩) (pvV hT hP hD [0, 1] rfl rfl 0 rfl rfl) rfl rfl hl.1 rfl (lv_room (Nat.le_of_ble_eq_true rfl)) dX5_scan_30 ⟨Nat.zero_le _, Nat.zero_le _⟩) (fun H locs hP hD hS => ?_)
  have hrc := rch_le HI ev 20 0
  refine lv_istore_n (lv' := [(2, .int (nI (rch HI ev 20 0))), (0, .ref h0), (1, .int (nI ev))]) hx hb dX5_scan_33 rfl hl (by decide) rfl (fun ls hl => ?_)
  refine lv_aload_n hx hb dX5_scan_34 rfl (lv_at hl 1 rfl) ?_
  refine va_get (D := D) (ci := 5) (v := .ref sc) (C := RX5) (T := TX5) (N := 14) hx hb hts hinX5 hown hK hP 0 rfl rfl 4 (by decide) hf40 (fun _ h9 => h9) rfl dX5_scan_35 ?_
  refine lv_aload_n hx hb dX5_scan_38 rfl (lv_at hl 1 rfl) ?_
  refine va_get (D := D) (ci := 5) (v := .int (nI ru)) (C := RX5) (T := TX5) (N := 14) hx hb hts hinX5 hown hK hP 0 rfl rfl 11 (by decide) hf66 (fun _ h9 => h9) rfl dX5_scan_39 ?_
  refine cr_v (wc := [(sc, .inr (4, [.ref s1, .ref s2, .int (nI sm)])), (s1, .inl (cJ, 600, .inr (.inl EC))), (s2, .inl (cI, 30, .inl (nA RU)))]) (w1 := [(sc, .inr (4, [.ref s1, .ref s2, .int (nI (sm + 1))])), (s1, .inl (cJ, 600, .inr (.inl EC))), (s2, .inl (cI, 30, .inl (nA (uN RU sm ru))))]) (ws2 := [(h0, .inr (5, [.ref ai, .ref pu, .ref pa, .ref ga, .ref sc, .ref hi, .ref gr, .int (nI me), .int (nI dp), .int (bI up), .int (nI mi), .int (nI ru), .long wp, .long wl])), (hi, .inl (cI, 20, .inl (nA HI))), (ai, .inr (0, [.ref a1])), (a1, .inl (cI, 600, .inl (nA C))), (sc, .inr (4, [.ref s1, .ref s2, .int (nI (sm + 1))])), (s1, .inl (cJ, 600, .inr (.inl EC))), (s2, .inl (cI, 30, .inl (nA (uN RU sm ru))))]) hP hD hS hA [4, 5, 6] rfl rfl rfl (va_runV (As := [.int (nI ru)]) (rest := []) ⟨hx, hb, hml, hown, hts⟩ (c_X4_begin l D cI cJ cZ sc s1 s2 EC RU sm ru (by omega) H.size) (cwV 1 hts gX5_scan_X4_begin rfl rfl rfl (by decide +kernel) ⟨Nat.le_of_ble_eq_true rfl, Nat.le_of_ble_eq_true rfl⟩) (pvV hT hP hD [4, 5, 6] rfl rfl 0 rfl rfl) rfl rfl hl.1 rfl (lv_room (Nat.le_of_ble_eq_true rfl)) dX5_scan_42 ⟨Nat.zero_le _, Nat.zero_le _⟩) (fun H locs hP hD hS => ?_)
  refine lv_iconst (v := nI 0) hx hb dX5_scan_45 (by decide) ?_
  refine lv_istore_n (lv' := [(3, .int (nI 0)), (2, .int (nI (rch HI ev 20 0))), (0, .ref h0), (1, .int (nI ev))]) hx hb dX5_scan_46 rfl hl (by decide) rfl (fun ls hl => ?_)
  have lp47 : ∀ (n i : Nat), i + n = (rch HI ev 20 0) → ∀ (H : Heap) (locs : List Loc), va_P D vwCl [(h0, .inr (5, [.ref ai, .ref pu, .ref pa, .ref ga, .ref sc, .ref hi, .ref gr, .int (nI me), .int (nI dp), .int (bI up), .int (nI mi), .int (nI ru), .long wp, .long wl])), (hi, .inl (cI, 20, .inl (nA HI))), (ai, .inr (0, [.ref a1])), (a1, .inl (cI, 600, .inl (nA C))), (sc, .inr (4, [.ref s1, .ref s2, .int (nI (sm + 1))])), (s1, .inl (cJ, 600, .inr (.inl (scE C me ev EC sm i)))), (s2, .inl (cI, 30, .inl (nA (uN RU sm ru))))] H → va_D A [(h0, .inr (5, [.ref ai, .ref pu, .ref pa, .ref ga, .ref sc, .ref hi, .ref gr, .int (nI me), .int (nI dp), .int (bI up), .int (nI mi), .int (nI ru), .long wp, .long wl])), (hi, .inl (cI, 20, .inl (nA HI))), (ai, .inr (0, [.ref a1])), (a1, .inl (cI, 600, .inl (nA C))), (sc, .inr (4, [.ref s1, .ref s2, .int (nI (sm + 1))])), (s1, .inl (cJ, 600, .inr (.inl (scE C me ev EC sm i)))), (s2, .inl (cI, 30, .inl (nA (uN RU sm ru))))] → va_S A s.heap H locs → ∀ (ls : Array Slot), lv_has ls 4 [(0, .ref h0), (1, .int (nI ev)), (2, .int (nI (rch HI ev 20 0))), (3, .int (nI i))] → W p l e (headSpec wsX5_scan ({ frames := 4, cells := 0, slots := 0, locals := 99 } : Room)).room s m args below meth c H locs 0 0 (MQ below (Qi9 D A [(h0, .inr (5, [.ref ai, .ref pu, .ref pa, .ref ga, .ref sc, .ref hi, .ref gr, .int (nI me), .int (nI dp), .int (bI up), .int (nI mi), .int (nI ru), .long wp, .long wl])), (hi, .inl (cI, 20, .inl (nA HI))), (ai, .inr (0, [.ref a1])), (a1, .inl (cI, 600, .inl (nA C))), (sc, .inr (4, [.ref s1, .ref s2, .int (nI (sm + 1))])), (s1, .inl (cJ, 600, .inr (.inl (scE C me ev EC sm (rch HI ev 20 0))))), (s2, .inl (cI, 30, .inl (nA (uN RU sm ru))))] (nI (rch HI ev 20 0))) args s 0 0 A) (F0 m 47 ls []) := by
    intro n
    induction n with
    | zero =>
      intro i hcnti H locs hP hD hS ls hl
      obtain rfl : (rch HI ev 20 0) = i := by omega
      refine lv_iload_n hx hb dX5_scan_47 rfl (lv_at hl 3 rfl) ?_
      refine lv_iload_n hx hb dX5_scan_48 rfl (lv_at hl 2 rfl) ?_
      refine ci_ge (tgt := 72) hx hb dX5_scan_49 (by decide) (nT (by omega)) (nT (by omega)) (fun c_49 => ?_) (fun c_49 => by omega)
      refine lv_iload_n hx hb dX5_scan_72 rfl (lv_at hl 2 rfl) ?_
      exact fin_i hx hb hr hlocks hP hD hS (rfl) dX5_scan_73
    | succ n ih =>
      intro i hcnti H locs hP hD hS ls hl
      have hlti : i < (rch HI ev 20 0) := by omega
      refine lv_iload_n hx hb dX5_scan_47 rfl (lv_at hl 3 rfl) ?_
      refine lv_iload_n hx hb dX5_scan_48 rfl (lv_at hl 2 rfl) ?_
      refine ci_ge (tgt := 72) hx hb dX5_scan_49 (by decide) (nT (by omega)) (nT (by omega)) (fun c_49 => by omega) (fun c_49 => ?_)
      refine lv_aload_n hx hb dX5_scan_52 rfl (lv_at hl 0 rfl) ?_
      refine va_get (D := D) (ci := 5) (v := .ref sc) (C := RX5) (T := TX5) (N := 14) hx hb hts hinX5 hown hK hP 0 rfl rfl 4 (by decide) hf40 (fun _ h9 => h9) rfl dX5_scan_53 ?_
      refine lv_iload_n hx hb dX5_scan_56 rfl (lv_at hl 3 rfl) ?_
      refine lv_aload_n hx hb dX5_scan_57 rfl (lv_at hl 0 rfl) ?_
      refine lv_iload_n hx hb dX5_scan_58 rfl (lv_at hl 3 rfl) ?_
      refine lv_iload_n hx hb dX5_scan_59 rfl (lv_at hl 1 rfl) ?_
      refine cr_l (wc := [(h0, .inr (5, [.ref ai, .ref pu, .ref pa, .ref ga, .ref sc, .ref hi, .ref gr, .int (nI me), .int (nI dp), .int (bI up), .int (nI mi), .int (nI ru), .long wp, .long wl])), (ai, .inr (0, [.ref a1])), (a1, .inl (cI, 600, .inl (nA C)))]) (w1 := [(h0, .inr (5, [.ref ai, .ref pu, .ref pa, .ref ga, .ref sc, .ref hi, .ref gr, .int (nI me), .int (nI dp), .int (bI up), .int (nI mi), .int (nI ru), .long wp, .long wl])), (ai, .inr (0, [.ref a1])), (a1, .inl (cI, 600, .inl (nA C)))]) (ws2 := [(h0, .inr (5, [.ref ai, .ref pu, .ref pa, .ref ga, .ref sc, .ref hi, .ref gr, .int (nI me), .int (nI dp), .int (bI up), .int (nI mi), .int (nI ru), .long wp, .long wl])), (hi, .inl (cI, 20, .inl (nA HI))), (ai, .inr (0, [.ref a1])), (a1, .inl (cI, 600, .inl (nA C))), (sc, .inr (4, [.ref s1, .ref s2, .int (nI (sm + 1))])), (s1, .inl (cJ, 600, .inr (.inl (scE C me ev EC sm i)))), (s2, .inl (cI, 30, .inl (nA (uN RU sm ru))))]) hP hD hS hA [0, 2, 3] rfl rfl rfl (va_runV (As := [.int (nI i), .int (nI ev)]) (rest := [.int (nI i), .ref sc]) ⟨hx, hb, hml, hown, hts⟩ (c_X5_echoInBeam l D cI cJ cZ h0 ai pu pa ga sc hi gr me dp up mi ru wp wl a1 C i ev (by omega) (by omega) (by omega) H.size) (cwV 2 hts gX5_scan_X5_echoInBeam rfl rfl rfl (by decide +kernel) ⟨Nat.le_of_ble_eq_true rfl, Nat.le_of_ble_eq_true rfl⟩) (pvV hT hP hD [0, 2, 3] rfl rfl 0 rfl rfl) rfl rfl hl.1 rfl (lv_room (Nat.le_of_ble_eq_true rfl)) dX5_scan_60 ⟨Nat.zero_le _, Nat.zero_le _⟩) (fun H locs hP hD hS => ?_)
      refine cr_v (wc := [(sc, .inr (4, [.ref s1, .ref s2, .int (nI (sm + 1))])), (s1, .inl (cJ, 600, .inr (.inl (scE C me ev EC sm i)))), (s2, .inl (cI, 30, .inl (nA (uN RU sm ru))))]) (w1 := [(sc, .inr (4, [.ref s1, .ref s2, .int (nI (sm + 1))])), (s1, .inl (cJ, 600, .inr (.inl (uN (scE C me ev EC sm i) (20 * ((sm + 1) - 1) + i) (eb9 C me i ev))))), (s2, .inl (cI, 30, .inl (nA (uN RU sm ru))))]) (ws2 := [(h0, .inr (5, [.ref ai, .ref pu, .ref pa, .ref ga, .ref sc, .ref hi, .ref gr, .int (nI me), .int (nI dp), .int (bI up), .int (nI mi), .int (nI ru), .long wp, .long wl])), (hi, .inl (cI, 20, .inl (nA HI))), (ai, .inr (0, [.ref a1])), (a1, .inl (cI, 600, .inl (nA C))), (sc, .inr (4, [.ref s1, .ref s2, .int (nI (sm + 1))])), (s1, .inl (cJ, 600, .inr (.inl (uN (scE C me ev EC sm i) (20 * ((sm + 1) - 1) + i) (eb9 C me i ev))))), (s2, .inl (cI, 30, .inl (nA (uN RU sm ru))))]) hP hD hS hA [4, 5, 6] rfl rfl rfl (va_runV (As := [.int (nI i), .long (eb9 C me i ev)]) (rest := []) ⟨hx, hb, hml, hown, hts⟩ (c_X4_setLatest l D cI cJ cZ sc s1 s2 (scE C me ev EC sm i) (uN RU sm ru) (sm + 1) i (eb9 C me i ev) (by omega) (by omega) (by omega) H.size) (cwV 2 hts gX5_scan_X4_setLatest rfl rfl rfl (by decide +kernel) ⟨Nat.le_of_ble_eq_true rfl, Nat.le_of_ble_eq_true rfl⟩) (pvV hT hP hD [4, 5, 6] rfl rfl 0 rfl rfl) rfl rfl hl.1 rfl (lv_room (Nat.le_of_ble_eq_true rfl)) dX5_scan_63 ⟨Nat.zero_le _, Nat.zero_le _⟩) (fun H locs hP hD hS => ?_)
      refine lv_iinc (v := nI (i + 1)) (lv' := [(3, .int (nI (i + 1))), (0, .ref h0), (1, .int (nI ev)), (2, .int (nI (rch HI ev 20 0)))]) hx hb dX5_scan_66 hl (k := 3) rfl (n_inc i) (by decide) rfl (fun ls hl => ?_)
      refine lv_goto (tgt := 47) hx hb dX5_scan_69 (by decide) ?_
      have hwe : ([(h0, .inr (5, [.ref ai, .ref pu, .ref pa, .ref ga, .ref sc, .ref hi, .ref gr, .int (nI me), .int (nI dp), .int (bI up), .int (nI mi), .int (nI ru), .long wp, .long wl])), (hi, .inl (cI, 20, .inl (nA HI))), (ai, .inr (0, [.ref a1])), (a1, .inl (cI, 600, .inl (nA C))), (sc, .inr (4, [.ref s1, .ref s2, .int (nI (sm + 1))])), (s1, .inl (cJ, 600, .inr (.inl (scE C me ev EC sm (i + 1))))), (s2, .inl (cI, 30, .inl (nA (uN RU sm ru))))] : va_W) = [(h0, .inr (5, [.ref ai, .ref pu, .ref pa, .ref ga, .ref sc, .ref hi, .ref gr, .int (nI me), .int (nI dp), .int (bI up), .int (nI mi), .int (nI ru), .long wp, .long wl])), (hi, .inl (cI, 20, .inl (nA HI))), (ai, .inr (0, [.ref a1])), (a1, .inl (cI, 600, .inl (nA C))), (sc, .inr (4, [.ref s1, .ref s2, .int (nI (sm + 1))])), (s1, .inl (cJ, 600, .inr (.inl (uN (scE C me ev EC sm i) (20 * ((sm + 1) - 1) + i) (eb9 C me i ev))))), (s2, .inl (cI, 30, .inl (nA (uN RU sm ru))))] := rfl
      exact ih (i + 1) (by omega) H locs (by rw [hwe]; exact hP) (by rw [hwe]; exact hD) hS ls (lv_sub hl [1, 2, 3, 0] rfl)
  have hwe : ([(h0, .inr (5, [.ref ai, .ref pu, .ref pa, .ref ga, .ref sc, .ref hi, .ref gr, .int (nI me), .int (nI dp), .int (bI up), .int (nI mi), .int (nI ru), .long wp, .long wl])), (hi, .inl (cI, 20, .inl (nA HI))), (ai, .inr (0, [.ref a1])), (a1, .inl (cI, 600, .inl (nA C))), (sc, .inr (4, [.ref s1, .ref s2, .int (nI (sm + 1))])), (s1, .inl (cJ, 600, .inr (.inl (scE C me ev EC sm 0)))), (s2, .inl (cI, 30, .inl (nA (uN RU sm ru))))] : va_W) = [(h0, .inr (5, [.ref ai, .ref pu, .ref pa, .ref ga, .ref sc, .ref hi, .ref gr, .int (nI me), .int (nI dp), .int (bI up), .int (nI mi), .int (nI ru), .long wp, .long wl])), (hi, .inl (cI, 20, .inl (nA HI))), (ai, .inr (0, [.ref a1])), (a1, .inl (cI, 600, .inl (nA C))), (sc, .inr (4, [.ref s1, .ref s2, .int (nI (sm + 1))])), (s1, .inl (cJ, 600, .inr (.inl EC))), (s2, .inl (cI, 30, .inl (nA (uN RU sm ru))))] := rfl
  exact lp47 (rch HI ev 20 0) 0 (by omega) H locs (by rw [hwe]; exact hP) (by rw [hwe]; exact hD) hS ls (lv_sub hl [2, 3, 1, 0] rfl)
set_option maxHeartbeats 4000000 in
set_option maxRecDepth 100000 in
theorem c_X5_rainOf (l : Launch) (D : va_G) (cI cJ cZ : ClassId) (xe : Int64) (rr : Nat) (hr1 : 1 ≤ rr) (hr2 : rr ≤ 1000) (sz : Nat) : Met l yX5_rainOf wsX5_rainOf ({ frames := 0, cells := 0, slots := 0, locals := 0 } : Room) (va_Pc [.long xe, .int (nI rr)] (mPre D cI cJ cZ [] sz)) (Ql9 D (va_A [] sz) [] (xe / (nI rr).toInt64)) 0 0 (va_A [] sz) := by
  refine Met.ofW (cc := cX5_rainOf) (maxL := 3) (ret := (some .long)) (by decide) rfl ?_
  intro p e s m args below meth c s₁ B hml hv
  obtain ⟨hargs, hsz, hP, hT, hD0⟩ := hv
  have hx := B.exec
  have hb := B.bytes
  have hr := B.returns
  have hts := atoms_spec (ws := wsX5_rainOf) B.pre
  have hown : s.vm.findClass RX5 = some m.cls := findClass_of_methodNamed B.named
  have hlocks := B.notSynchronized
  subst hsz
  have hK := hT.1
  have hD := hD0.self (sz := s.heap.size)
  generalize hAe : va_A [] s.heap.size = A at hD ⊢
  have hA : ∀ q : Nat, s.heap.size ≤ q → A q := fun q h => by rw [← hAe]; exact Or.inr h
  have hS : va_S A s.heap s.heap [] := va_S.rf
  obtain ⟨H, hHe⟩ : ∃ H : Heap, H = s.heap := ⟨_, rfl⟩
  have hS : va_S A s.heap H [] := by rw [hHe]; exact va_S.rf
  rw [← hHe] at hP
  suffices K0 : W p l e (headSpec wsX5_rainOf ({ frames := 0, cells := 0, slots := 0, locals := 0 } : Room)).room s m args below meth c H [] 0 0 (MQ below (Ql9 D A [] (xe / (nI rr).toInt64)) args s 0 0 A) (entryFrame m args 3) by rw [hHe] at K0; exact K0
  refine W.eq (g2 := entryFrame m ([.long xe, .int (nI rr)] : List Value).toArray 3) (by rw [hargs]) ?_
  have hl := lv_entry ([.long xe, .int (nI rr)]) (n := 3) (Nat.le_of_ble_eq_true rfl)
  rw [lg_entry_eq]
  generalize (lg_sl ([.long xe, .int (nI rr)]) ++ List.replicate (3 - (lg_sl ([.long xe, .int (nI rr)])).length) Slot.unset).toArray = ls at hl ⊢
  have hl : lv_has ls 3 [(0, .long xe), (2, .int (nI rr))] := hl
  generalize ([] : List Loc) = locs at hS ⊢
  refine lv_iload_n hx hb dX5_rainOf_0 rfl (lv_at hl 1 rfl) ?_
  refine c0_le (tgt := 11) hx hb dX5_rainOf_1 (by decide) (nT (by omega)) (fun c_1 => by omega) (fun c_1 => ?_)
  refine lv_lload_n hx hb dX5_rainOf_4 rfl (lv_at hl 0 rfl) ?_
  refine lv_iload_n hx hb dX5_rainOf_5 rfl (lv_at hl 1 rfl) ?_
  refine lv_i2l (v := (nI rr).toInt64) hx hb dX5_rainOf_6 rfl ?_
  refine lv_ldiv hx hb dX5_rainOf_7 (nl_ne hr1 (by omega)) ?_
  refine lv_goto (tgt := 12) hx hb dX5_rainOf_8 (by decide) ?_
  exact fin_l hx hb hr hlocks hP hD hS (rfl) dX5_rainOf_12
set_option maxHeartbeats 4000000 in
set_option maxRecDepth 100000 in
theorem c_X5_rain (l : Launch) (D : va_G) (cI cJ cZ : ClassId) (h0 : Nat) (ai : Nat) (pu : Nat) (pa : Nat) (ga : Nat) (sc : Nat) (hi : Nat) (gr : Nat) (me : Nat) (dp : Nat) (up : Bool) (mi : Nat) (ru : Nat) (wp : Int64) (wl : Int64) (s1 : Nat) (s2 : Nat) (EC : Nat → Int64) (RU : Nat → Nat) (sm : Nat) (ki : Nat) (hki : ki < 20) (hsm : sm ≤ 30) (hRU : ∀ k, k < sm → 1 ≤ RU k ∧ RU k ≤ 1000) (sz : Nat) : Met l yX5_rain wsX5_rain ({ frames := 2, cells := 0, slots := 0, locals := 45 } : Room) (va_Pc [.ref h0, .int (nI ki)] (mPre D cI cJ cZ [(h0, .inr (5, [.ref ai, .ref pu, .ref pa, .ref ga, .ref sc, .ref hi, .ref gr, .int (nI me), .int (nI dp), .int (bI up), .int (nI mi), .int (nI ru), .long wp, .long wl])), (sc, .inr (4, [.ref s1, .ref s2, .int (nI sm)])), (s1, .inl (cJ, 600, .inr (.inl EC))), (s2, .inl (cI, 30, .inl (nA RU)))] sz)) (Ql9 D (va_A [(h0, .inr (5, [.ref ai, .ref pu, .ref pa, .ref ga, .ref sc, .ref hi, .ref gr, .int (nI me), .int (nI dp), .int (bI up), .int (nI mi), .int (nI ru), .long wp, .long wl])), (sc, .inr (4, [.ref s1, .ref s2, .int (nI sm)])), (s1, .inl (cJ, 600, .inr (.inl EC))), (s2, .inl (cI, 30, .inl (nA RU)))] sz) [(h0, .inr (5, [.ref ai, .ref pu, .ref pa, .ref ga, .ref sc, .ref hi, .ref gr, .int (nI me), .int (nI dp), .int (bI up), .int (nI mi), .int (nI ru), .long wp, .long wl])), (sc, .inr (4, [.ref s1, .ref s2, .int (nI sm)])), (s1, .inl (cJ, 600, .inr (.inl EC))), (s2, .inl (cI, 30, .inl (nA RU)))] (rnS EC RU ki sm)) 0 0 (va_A [(h0, .inr (5, [.ref ai, .ref pu, .ref pa, .ref ga, .ref sc, .ref hi, .ref gr, .int (nI me), .int (nI dp), .int (bI up), .int (nI mi), .int (nI ru), .long wp, .long wl])), (sc, .inr (4, [.ref s1, .ref s2, .int (nI sm)])), (s1, .inl (cJ, 600, .inr (.inl EC))), (s2, .inl (cI, 30, .inl (nA RU)))] sz) := by
  refine Met.ofW (cc := cX5_rain) (maxL := 5) (ret := (some .long)) (by decide) rfl ?_
  intro p e s m args below meth c s₁ B hml hv
  obtain ⟨hargs, hsz, hP, hT, hD0⟩ := hv
  have hx := B.exec
  have hb := B.bytes
  have hr := B.returns
  have hts := atoms_spec (ws := wsX5_rain) B.pre
  have hown : s.vm.findClass RX5 = some m.cls := findClass_of_methodNamed B.named
  have hlocks := B.notSynchronized
  subst hsz
  have hK := hT.1
  have hD := hD0.self (sz := s.heap.size)
  generalize hAe : va_A [(h0, .inr (5, [.ref ai, .ref pu, .ref pa, .ref ga, .ref sc, .ref hi, .ref gr, .int (nI me), .int (nI dp), .int (bI up), .int (nI mi), .int (nI ru), .long wp, .long wl])), (sc, .inr (4, [.ref s1, .ref s2, .int (nI sm)])), (s1, .inl (cJ, 600, .inr (.inl EC))), (s2, .inl (cI, 30, .inl (nA RU)))] s.heap.size = A at hD ⊢
  have hA : ∀ q : Nat, s.heap.size ≤ q → A q := fun q h => by rw [← hAe]; exact Or.inr h
  have hS : va_S A s.heap s.heap [] := va_S.rf
  obtain ⟨H, hHe⟩ : ∃ H : Heap, H = s.heap := ⟨_, rfl⟩
  have hS : va_S A s.heap H [] := by rw [hHe]; exact va_S.rf
  rw [← hHe] at hP
  suffices K0 : W p l e (headSpec wsX5_rain ({ frames := 2, cells := 0, slots := 0, locals := 45 } : Room)).room s m args below meth c H [] 0 0 (MQ below (Ql9 D A [(h0, .inr (5, [.ref ai, .ref pu, .ref pa, .ref ga, .ref sc, .ref hi, .ref gr, .int (nI me), .int (nI dp), .int (bI up), .int (nI mi), .int (nI ru), .long wp, .long wl])), (sc, .inr (4, [.ref s1, .ref s2, .int (nI sm)])), (s1, .inl (cJ, 600, .inr (.inl EC))), (s2, .inl (cI, 30, .inl (nA RU)))] (rnS EC RU ki sm)) args s 0 0 A) (entryFrame m args 5) by rw [hHe] at K0; exact K0
  refine W.eq (g2 := entryFrame m ([.ref h0, .int (nI ki)] : List Value).toArray 5) (by rw [hargs]) ?_
  have hl := lv_entry ([.ref h0, .int (nI ki)]) (n := 5) (Nat.le_of_ble_eq_true rfl)
  rw [lg_entry_eq]
  generalize (lg_sl ([.ref h0, .int (nI ki)]) ++ List.replicate (5 - (lg_sl ([.ref h0, .int (nI ki)])).length) Slot.unset).toArray = ls at hl ⊢
  have hl : lv_has ls 5 [(0, .ref h0), (1, .int (nI ki))] := hl
  generalize ([] : List Loc) = locs at hS ⊢
  have hinX5 : ∀ w ∈ wsX50, w ∈ wsX5_rain := by decide +kernel
  have hf40 := hts (.fieldLink RX5 40 "Brightband" "scans" "LBrightband$Scans;") (by decide +kernel)
  have hinX4 : ∀ w ∈ wsX40, w ∈ wsX5_rain := by decide +kernel
  refine lv_iload_n hx hb dX5_rain_0 rfl (lv_at hl 1 rfl) ?_
  refine cr_v (wc := []) (w1 := []) (ws2 := [(h0, .inr (5, [.ref ai, .ref pu, .ref pa, .ref ga, .ref sc, .ref hi, .ref gr, .int (nI me), .int (nI dp), .int (bI up), .int (nI mi), .int (nI ru), .long wp, .long wl])), (sc, .inr (4, [.ref s1, .ref s2, .int (nI sm)])), (s1, .inl (cJ, 600, .inr (.inl EC))), (s2, .inl (cI, 30, .inl (nA RU)))]) hP hD hS hA [] rfl rfl rfl (va_runS (As := [.int (nI ki)]) (rest := []) ⟨hx, hb, hml, hown, hts⟩ (c_X5_requireKilometre l D cI cJ cZ ki (by omega) H.size) (va_cwS 1 hts gX5_rain_X5_requireKilometre rfl rfl rfl (by decide +kernel) ⟨Nat.le_of_ble_eq_true rfl, Nat.le_of_ble_eq_true rfl⟩) (pvS hT hP hD [] rfl rfl) rfl rfl hl.1 rfl (lv_room (Nat.le_of_ble_eq_true rfl)) dX5_rain_1 ⟨Nat.zero_le _, Nat.zero_le _⟩) (fun H locs hP hD hS => ?_)
  refine lv_lconst (v := 0) hx hb dX5_rain_4 (by decide) ?_
  refine lv_lstore_n (lv' := [(2, .long 0), (0, .ref h0), (1, .int (nI ki))]) hx hb dX5_rain_5 rfl hl (by decide) rfl (fun ls hl => ?_)
  refine lv_iconst (v := nI 0) hx hb dX5_rain_6 (by decide) ?_
  refine lv_istore (lv' := [(4, .int (nI 0)), (2, .long 0), (0, .ref h0), (1, .int (nI ki))]) hx hb dX5_rain_7 hl (by decide) rfl (fun ls hl => ?_)
  have lp9 : ∀ (n i : Nat), i + n = sm → ∀ (H : Heap) (locs : List Loc), va_P D vwCl [(h0, .inr (5, [.ref ai, .ref pu, .ref pa, .ref ga, .ref sc, .ref hi, .ref gr, .int (nI me), .int (nI dp), .int (bI up), .int (nI mi), .int (nI ru), .long wp, .long wl])), (sc, .inr (4, [.ref s1, .ref s2, .int (nI sm)])), (s1, .inl (cJ, 600, .inr (.inl EC))), (s2, .inl (cI, 30, .inl (nA RU)))] H → va_D A [(h0, .inr (5, [.ref ai, .ref pu, .ref pa, .ref ga, .ref sc, .ref hi, .ref gr, .int (nI me), .int (nI dp), .int (bI up), .int (nI mi), .int (nI ru), .long wp, .long wl])), (sc, .inr (4, [.ref s1, .ref s2, .int (nI sm)])), (s1, .inl (cJ, 600, .inr (.inl EC))), (s2, .inl (cI, 30, .inl (nA RU)))] → va_S A s.heap H locs → ∀ (ls : Array Slot), lv_has ls 5 [(0, .ref h0), (1, .int (nI ki)), (2, .long (rnS EC RU ki i)), (4, .int (nI i))] → W p l e (headSpec wsX5_rain ({ frames := 2, cells := 0, slots := 0, locals := 45 } : Room)).room s m args below meth c H locs 0 0 (MQ below (Ql9 D A [(h0, .inr (5, [.ref ai, .ref pu, .ref pa, .ref ga, .ref sc, .ref hi, .ref gr, .int (nI me), .int (nI dp), .int (bI up), .int (nI mi), .int (nI ru), .long wp, .long wl])), (sc, .inr (4, [.ref s1, .ref s2, .int (nI sm)])), (s1, .inl (cJ, 600, .inr (.inl EC))), (s2, .inl (cI, 30, .inl (nA RU)))] (rnS EC RU ki sm)) args s 0 0 A) (F0 m 9 ls []) := by
    intro n
    induction n with
    | zero =>
      intro i hcnti H locs hP hD hS ls hl
      obtain rfl : sm = i := by omega
      refine lv_iload hx hb dX5_rain_9 (lv_at hl 3 rfl) ?_
      refine lv_aload_n hx hb dX5_rain_11 rfl (lv_at hl 0 rfl) ?_
      refine va_get (D := D) (ci := 5) (v := .ref sc) (C := RX5) (T := TX5) (N := 14) hx hb hts hinX5 hown hK hP 0 rfl rfl 4 (by decide) hf40 (fun _ h9 => h9) rfl dX5_rain_12 ?_
      refine va_getN (D := D) (ci := 4) (v := .int (nI sm)) (C := RX4) (T := TX4) (N := 3) hx hb hts hinX4 hown hK hP 1 rfl rfl 2 (by decide) (va_Nw.use rfl hT.2.2.2.2.2.2.2.2.2.1) (fun _ h9 => h9) rfl dX5_rain_15 ?_
      refine ci_ge (tgt := 52) hx hb dX5_rain_18 (by decide) (nT (by omega)) (nT (by omega)) (fun c_18 => ?_) (fun c_18 => by omega)
      refine lv_lload_n hx hb dX5_rain_52 rfl (lv_at hl 2 rfl) ?_
      exact fin_l hx hb hr hlocks hP hD hS (rfl) dX5_rain_53
    | succ n ih =>
      intro i hcnti H locs hP hD hS ls hl
      have hlti : i < sm := by omega
      refine lv_iload hx hb dX5_rain_9 (lv_at hl 3 rfl) ?_
      refine lv_aload_n hx hb dX5_rain_11 rfl (lv_at hl 0 rfl) ?_
      refine va_get (D := D) (ci := 5) (v := .ref sc) (C := RX5) (T := TX5) (N := 14) hx hb hts hinX5 hown hK hP 0 rfl rfl 4 (by decide) hf40 (fun _ h9 => h9) rfl dX5_rain_12 ?_
      refine va_getN (D := D) (ci := 4) (v := .int (nI sm)) (C := RX4) (T := TX4) (N := 3) hx hb hts hinX4 hown hK hP 1 rfl rfl 2 (by decide) (va_Nw.use rfl hT.2.2.2.2.2.2.2.2.2.1) (fun _ h9 => h9) rfl dX5_rain_15 ?_
      refine ci_ge (tgt := 52) hx hb dX5_rain_18 (by decide) (nT (by omega)) (nT (by omega)) (fun c_18 => by omega) (fun c_18 => ?_)
      refine lv_lload_n hx hb dX5_rain_21 rfl (lv_at hl 2 rfl) ?_
      refine lv_aload_n hx hb dX5_rain_22 rfl (lv_at hl 0 rfl) ?_
      refine va_get (D := D) (ci := 5) (v := .ref sc) (C := RX5) (T := TX5) (N := 14) hx hb hts hinX5 hown hK hP 0 rfl rfl 4 (by decide) hf40 (fun _ h9 => h9) rfl dX5_rain_23 ?_
      refine lv_iload hx hb dX5_rain_26 (lv_at hl 3 rfl) ?_
      refine lv_iload_n hx hb dX5_rain_28 rfl (lv_at hl 1 rfl) ?_
      refine cr_l (wc := [(sc, .inr (4, [.ref s1, .ref s2, .int (nI sm)])), (s1, .inl (cJ, 600, .inr (.inl EC))), (s2, .inl (cI, 30, .inl (nA RU)))]) (w1 := [(sc, .inr (4, [.ref s1, .ref s2, .int (nI sm)])), (s1, .inl (cJ, 600, .inr (.inl EC))), (s2, .inl (cI, 30, .inl (nA RU)))]) (ws2 := [(h0, .inr (5, [.ref ai, .ref pu, .ref pa, .ref ga, .ref sc, .ref hi, .ref gr, .int (nI me), .int (nI dp), .int (bI up), .int (nI mi), .int (nI ru), .long wp, .long wl])), (sc, .inr (4, [.ref s1, .ref s2, .int (nI sm)])), (s1, .inl (cJ, 600, .inr (.inl EC))), (s2, .inl (cI, 30, .inl (nA RU)))]) hP hD hS hA [1, 2, 3] rfl rfl rfl (va_runV (As := [.int (nI i), .int (nI ki)]) (rest := [.long (rnS EC RU ki i)]) ⟨hx, hb, hml, hown, hts⟩ (c_X4_echoAt_in l D cI cJ cZ sc s1 s2 EC RU sm i ki (by omega) (by omega) (by omega) H.size) (cwV 2 hts gX5_rain_X4_echoAt rfl rfl rfl (by decide +kernel) ⟨Nat.le_of_ble_eq_true rfl, Nat.le_of_ble_eq_true rfl⟩) (pvV hT hP hD [1, 2, 3] rfl rfl 0 rfl rfl) rfl rfl hl.1 rfl (lv_room (Nat.le_of_ble_eq_true rfl)) dX5_rain_29 ⟨Nat.zero_le _, Nat.zero_le _⟩) (fun H locs hP hD hS => ?_)
      refine lv_aload_n hx hb dX5_rain_32 rfl (lv_at hl 0 rfl) ?_
      refine va_get (D := D) (ci := 5) (v := .ref sc) (C := RX5) (T := TX5) (N := 14) hx hb hts hinX5 hown hK hP 0 rfl rfl 4 (by decide) hf40 (fun _ h9 => h9) rfl dX5_rain_33 ?_
      refine lv_iload hx hb dX5_rain_36 (lv_at hl 3 rfl) ?_
      refine cr_i (wc := [(sc, .inr (4, [.ref s1, .ref s2, .int (nI sm)])), (s1, .inl (cJ, 600, .inr (.inl EC))), (s2, .inl (cI, 30, .inl (nA RU)))]) (w1 := [(sc, .inr (4, [.ref s1, .ref s2, .int (nI sm)])), (s1, .inl (cJ, 600, .inr (.inl EC))), (s2, .inl (cI, 30, .inl (nA RU)))]) (ws2 := [(h0, .inr (5, [.ref ai, .ref pu, .ref pa, .ref ga, .ref sc, .ref hi, .ref gr, .int (nI me), .int (nI dp), .int (bI up), .int (nI mi), .int (nI ru), .long wp, .long wl])), (sc, .inr (4, [.ref s1, .ref s2, .int (nI sm)])), (s1, .inl (cJ, 600, .inr (.inl EC))), (s2, .inl (cI, 30, .inl (nA RU)))]) hP hD hS hA [1, 2, 3] rfl rfl rfl (va_runV (As := [.int (nI i)]) (rest := [.long (EC (20 * i + ki)), .long (rnS EC RU ki i)]) ⟨hx, hb, hml, hown, hts⟩ (c_X4_ruleAt l D cI cJ cZ sc s1 s2 EC RU sm i (by omega) (by omega) H.size) (cwV 1 hts gX5_rain_X4_ruleAt rfl rfl rfl (by decide +kernel) ⟨Nat.le_of_ble_eq_true rfl, Nat.le_of_ble_eq_true rfl⟩) (pvV hT hP hD [1, 2, 3] rfl rfl 0 rfl rfl) rfl rfl hl.1 rfl (lv_room (Nat.le_of_ble_eq_true rfl)) dX5_rain_38 ⟨Nat.zero_le _, Nat.zero_le _⟩) (fun H locs hP hD hS => ?_)
      have hRi := hRU i hlti
      refine cr_l (wc := []) (w1 := []) (ws2 := [(h0, .inr (5, [.ref ai, .ref pu, .ref pa, .ref ga, .ref sc, .ref hi, .ref gr, .int (nI me), .int (nI dp), .int (bI up), .int (nI mi), .int (nI ru), .long wp, .long wl])), (sc, .inr (4, [.ref s1, .ref s2, .int (nI sm)])), (s1, .inl (cJ, 600, .inr (.inl EC))), (s2, .inl (cI, 30, .inl (nA RU)))]) hP hD hS hA [] rfl rfl rfl (va_runS (As := [.long (EC (20 * i + ki)), .int (nI (RU i))]) (rest := [.long (rnS EC RU ki i)]) ⟨hx, hb, hml, hown, hts⟩ (c_X5_rainOf l D cI cJ cZ (EC (20 * i + ki)) (RU i) (by omega) (by omega) H.size) (va_cwS 2 hts gX5_rain_X5_rainOf rfl rfl rfl (by decide +kernel) ⟨Nat.le_of_ble_eq_true rfl, Nat.le_of_ble_eq_true rfl⟩) (pvS hT hP hD [] rfl rfl) rfl rfl hl.1 rfl (lv_room (Nat.le_of_ble_eq_true rfl)) dX5_rain_41 ⟨Nat.zero_le _, Nat.zero_le _⟩) (fun H locs hP hD hS => ?_)
      refine lv_ladd hx hb dX5_rain_44 ?_
      refine lv_lstore_n (lv' := [(2, .long ((rnS EC RU ki i) + ((EC (20 * i + ki)) / (nI (RU i)).toInt64))), (0, .ref h0), (1, .int (nI ki)), (4, .int (nI i))]) hx hb dX5_rain_45 rfl hl (by decide) rfl (fun ls hl => ?_)
      refine lv_iinc (v := nI (i + 1)) (lv' := [(4, .int (nI (i + 1))), (2, .long ((rnS EC RU ki i) + ((EC (20 * i + ki)) / (nI (RU i)).toInt64))), (0, .ref h0), (1, .int (nI ki))]) hx hb dX5_rain_46 hl (k := 3) rfl (n_inc i) (by decide) rfl (fun ls hl => ?_)
      refine lv_goto (tgt := 9) hx hb dX5_rain_49 (by decide) ?_
      have hle : ([(0, .ref h0), (1, .int (nI ki)), (2, .long (rnS EC RU ki (i + 1))), (4, .int (nI (i + 1)))] : List (Nat × Value)) = [(0, .ref h0), (1, .int (nI ki)), (2, .long ((rnS EC RU ki i) + ((EC (20 * i + ki)) / (nI (RU i)).toInt64))), (4, .int (nI (i + 1)))] := rfl
      exact ih (i + 1) (by omega) H locs hP hD hS ls (by rw [hle]; exact lv_sub hl [2, 3, 1, 0] rfl)
  have hle : ([(0, .ref h0), (1, .int (nI ki)), (2, .long (rnS EC RU ki 0)), (4, .int (nI 0))] : List (Nat × Value)) = [(0, .ref h0), (1, .int (nI ki)), (2, .long 0), (4, .int (nI 0))] := rfl
  exact lp9 sm 0 (by omega) H locs hP hD hS ls (by rw [hle]; exact lv_sub hl [2, 3, 1, 0] rfl)
set_option maxHeartbeats 4000000 in
set_option maxRecDepth 100000 in
theorem c_X5_rainBy (l : Launch) (D : va_G) (cI cJ cZ : ClassId) (h0 : Nat) (ai : Nat) (pu : Nat) (pa : Nat) (ga : Nat) (sc : Nat) (hi : Nat) (gr : Nat) (me : Nat) (dp : Nat) (up : Bool) (mi : Nat) (ru : Nat) (wp : Int64) (wl : Int64) (s1 : Nat) (s2 : Nat) (EC : Nat → Int64) (RU : Nat → Nat) (sm : Nat) (ki : Nat) (rr : Nat) (hki : ki < 20) (hr1 : 1 ≤ rr) (hr2 : rr ≤ 1000) (hsm : sm ≤ 30) (sz : Nat) : Met l yX5_rainBy wsX5_rainBy ({ frames := 2, cells := 0, slots := 0, locals := 45 } : Room) (va_Pc [.ref h0, .int (nI ki), .int (nI rr)] (mPre D cI cJ cZ [(h0, .inr (5, [.ref ai, .ref pu, .ref pa, .ref ga, .ref sc, .ref hi, .ref gr, .int (nI me), .int (nI dp), .int (bI up), .int (nI mi), .int (nI ru), .long wp, .long wl])), (sc, .inr (4, [.ref s1, .ref s2, .int (nI sm)])), (s1, .inl (cJ, 600, .inr (.inl EC))), (s2, .inl (cI, 30, .inl (nA RU)))] sz)) (Ql9 D (va_A [(h0, .inr (5, [.ref ai, .ref pu, .ref pa, .ref ga, .ref sc, .ref hi, .ref gr, .int (nI me), .int (nI dp), .int (bI up), .int (nI mi), .int (nI ru), .long wp, .long wl])), (sc, .inr (4, [.ref s1, .ref s2, .int (nI sm)])), (s1, .inl (cJ, 600, .inr (.inl EC))), (s2, .inl (cI, 30, .inl (nA RU)))] sz) [(h0, .inr (5, [.ref ai, .ref pu, .ref pa, .ref ga, .ref sc, .ref hi, .ref gr, .int (nI me), .int (nI dp), .int (bI up), .int (nI mi), .int (nI ru), .long wp, .long wl])), (sc, .inr (4, [.ref s1, .ref s2, .int (nI sm)])), (s1, .inl (cJ, 600, .inr (.inl EC))), (s2, .inl (cI, 30, .inl (nA RU)))] (rnS EC (fun _ => rr) ki sm)) 0 0 (va_A [(h0, .inr (5, [.ref ai, .ref pu, .ref pa, .ref ga, .ref sc, .ref hi, .ref gr, .int (nI me), .int (nI dp), .int (bI up), .int (nI mi), .int (nI ru), .long wp, .long wl])), (sc, .inr (4, [.ref s1, .ref s2, .int (nI sm)])), (s1, .inl (cJ, 600, .inr (.inl EC))), (s2, .inl (cI, 30, .inl (nA RU)))] sz) := by
  refine Met.ofW (cc := cX5_rainBy) (maxL := 6) (ret := (some .long)) (by decide) rfl ?_
  intro p e s m args below meth c s₁ B hml hv
  obtain ⟨hargs, hsz, hP, hT, hD0⟩ := hv
  have hx := B.exec
  have hb := B.bytes
  have hr := B.returns
  have hts := atoms_spec (ws := wsX5_rainBy) B.pre
  have hown : s.vm.findClass RX5 = some m.cls := findClass_of_methodNamed B.named
  have hlocks := B.notSynchronized
  subst hsz
  have hK := hT.1
  have hD := hD0.self (sz := s.heap.size)
  generalize hAe : va_A [(h0, .inr (5, [.ref ai, .ref pu, .ref pa, .ref ga, .ref sc, .ref hi, .ref gr, .int (nI me), .int (nI dp), .int (bI up), .int (nI mi), .int (nI ru), .long wp, .long wl])), (sc, .inr (4, [.ref s1, .ref s2, .int (nI sm)])), (s1, .inl (cJ, 600, .inr (.inl EC))), (s2, .inl (cI, 30, .inl (nA RU)))] s.heap.size = A at hD ⊢
  have hA : ∀ q : Nat, s.heap.size ≤ q → A q := fun q h => by rw [← hAe]; exact Or.inr h
  have hS : va_S A s.heap s.heap [] := va_S.rf
  obtain ⟨H, hHe⟩ : ∃ H : Heap, H = s.heap := ⟨_, rfl⟩
  have hS : va_S A s.heap H [] := by rw [hHe]; exact va_S.rf
  rw [← hHe] at hP
  suffices K0 : W p l e (headSpec wsX5_rainBy ({ frames := 2, cells := 0, slots := 0, locals := 45 } : Room)).room s m args below meth c H [] 0 0 (MQ below (Ql9 D A [(h0, .inr (5, [.ref ai, .ref pu, .ref pa, .ref ga, .ref sc, .ref hi, .ref gr, .int (nI me), .int (nI dp), .int (bI up), .int (nI mi), .int (nI ru), .long wp, .long wl])), (sc, .inr (4, [.ref s1, .ref s2, .int (nI sm)])), (s1, .inl (cJ, 600, .inr (.inl EC))), (s2, .inl (cI, 30, .inl (nA RU)))] (rnS EC (fun _ => rr) ki sm)) args s 0 0 A) (entryFrame m args 6) by rw [hHe] at K0; exact K0
  refine W.eq (g2 := entryFrame m ([.ref h0, .int (nI ki), .int (nI rr)] : List Value).toArray 6) (by rw [hargs]) ?_
  have hl := lv_entry ([.ref h0, .int (nI ki), .int (nI rr)]) (n := 6) (Nat.le_of_ble_eq_true rfl)
  rw [lg_entry_eq]
  generalize (lg_sl ([.ref h0, .int (nI ki), .int (nI rr)]) ++ List.replicate (6 - (lg_sl ([.ref h0, .int (nI ki), .int (nI rr)])).length) Slot.unset).toArray = ls at hl ⊢
  have hl : lv_has ls 6 [(0, .ref h0), (1, .int (nI ki)), (2, .int (nI rr))] := hl
  generalize ([] : List Loc) = locs at hS ⊢
  have hinX5 : ∀ w ∈ wsX50, w ∈ wsX5_rainBy := by decide +kernel
  have hf40 := hts (.fieldLink RX5 40 "Brightband" "scans" "LBrightband$Scans;") (by decide +kernel)
  have hinX4 : ∀ w ∈ wsX40, w ∈ wsX5_rainBy := by decide +kernel
  refine lv_iload_n hx hb dX5_rainBy_0 rfl (lv_at hl 1 rfl) ?_
  refine cr_v (wc := []) (w1 := []) (ws2 := [(h0, .inr (5, [.ref ai, .ref pu, .ref pa, .ref ga, .ref sc, .ref hi, .ref gr, .int (nI me), .int (nI dp), .int (bI up), .int (nI mi), .int (nI ru), .long wp, .long wl])), (sc, .inr (4, [.ref s1, .ref s2, .int (nI sm)])), (s1, .inl (cJ, 600, .inr (.inl EC))), (s2, .inl (cI, 30, .inl (nA RU)))]) hP hD hS hA [] rfl rfl rfl (va_runS (As := [.int (nI ki)]) (rest := []) ⟨hx, hb, hml, hown, hts⟩ (c_X5_requireKilometre l D cI cJ cZ ki (by omega) H.size) (va_cwS 1 hts gX5_rainBy_X5_requireKilometre rfl rfl rfl (by decide +kernel) ⟨Nat.le_of_ble_eq_true rfl, Nat.le_of_ble_eq_true rfl⟩) (pvS hT hP hD [] rfl rfl) rfl rfl hl.1 rfl (lv_room (Nat.le_of_ble_eq_true rfl)) dX5_rainBy_1 ⟨Nat.zero_le _, Nat.zero_le _⟩) (fun H locs hP hD hS => ?_)
  refine lv_iload_n hx hb dX5_rainBy_4 rfl (lv_at hl 2 rfl) ?_
  refine lv_iconst (v := nI 1) hx hb dX5_rainBy_5 (by decide) ?_
  refine lv_sipush (v := nI 1000) hx hb dX5_rainBy_6 (by decide) ?_
  refine cr_v (wc := []) (w1 := []) (ws2 := [(h0, .inr (5, [.ref ai, .ref pu, .ref pa, .ref ga, .ref sc, .ref hi, .ref gr, .int (nI me), .int (nI dp), .int (bI up), .int (nI mi), .int (nI ru), .long wp, .long wl])), (sc, .inr (4, [.ref s1, .ref s2, .int (nI sm)])), (s1, .inl (cJ, 600, .inr (.inl EC))), (s2, .inl (cI, 30, .inl (nA RU)))]) hP hD hS hA [] rfl rfl rfl (va_runS (As := [.int (nI rr), .int (nI 1), .int (nI 1000)]) (rest := []) ⟨hx, hb, hml, hown, hts⟩ (c_X5_requireRange l D cI cJ cZ rr 1 1000 (by omega) (by omega) (by omega) H.size) (va_cwS 3 hts gX5_rainBy_X5_requireRange rfl rfl rfl (by decide +kernel) ⟨Nat.le_of_ble_eq_true rfl, Nat.le_of_ble_eq_true rfl⟩) (pvS hT hP hD [] rfl rfl) rfl rfl hl.1 rfl (lv_room (Nat.le_of_ble_eq_true rfl)) dX5_rainBy_9 ⟨Nat.zero_le _, Nat.zero_le _⟩) (fun H locs hP hD hS => ?_)
  refine lv_lconst (v := 0) hx hb dX5_rainBy_12 (by decide) ?_
  refine lv_lstore_n (lv' := [(3, .long 0), (0, .ref h0), (1, .int (nI ki)), (2, .int (nI rr))]) hx hb dX5_rainBy_13 rfl hl (by decide) rfl (fun ls hl => ?_)
  refine lv_iconst (v := nI 0) hx hb dX5_rainBy_14 (by decide) ?_
  refine lv_istore (lv' := [(5, .int (nI 0)), (3, .long 0), (0, .ref h0), (1, .int (nI ki)), (2, .int (nI rr))]) hx hb dX5_rainBy_15 hl (by decide) rfl (fun ls hl => ?_)
  have lp17 : ∀ (n i : Nat), i + n = sm → ∀ (H : Heap) (locs : List Loc), va_P D vwCl [(h0, .inr (5, [.ref ai, .ref pu, .ref pa, .ref ga, .ref sc, .ref hi, .ref gr, .int (nI me), .int (nI dp), .int (bI up), .int (nI mi), .int (nI ru), .long wp, .long wl])), (sc, .inr (4, [.ref s1, .ref s2, .int (nI sm)])), (s1, .inl (cJ, 600, .inr (.inl EC))), (s2, .inl (cI, 30, .inl (nA RU)))] H → va_D A [(h0, .inr (5, [.ref ai, .ref pu, .ref pa, .ref ga, .ref sc, .ref hi, .ref gr, .int (nI me), .int (nI dp), .int (bI up), .int (nI mi), .int (nI ru), .long wp, .long wl])), (sc, .inr (4, [.ref s1, .ref s2, .int (nI sm)])), (s1, .inl (cJ, 600, .inr (.inl EC))), (s2, .inl (cI, 30, .inl (nA RU)))] → va_S A s.heap H locs → ∀ (ls : Array Slot), lv_has ls 6 [(0, .ref h0), (1, .int (nI ki)), (2, .int (nI rr)), (3, .long (rnS EC (fun _ => rr) ki i)), (5, .int (nI i))] → W p l e (headSpec wsX5_rainBy ({ frames := 2, cells := 0, slots := 0, locals := 45 } : Room)).room s m args below meth c H locs 0 0 (MQ below (Ql9 D A [(h0, .inr (5, [.ref ai, .ref pu, .ref pa, .ref ga, .ref sc, .ref hi, .ref gr, .int (nI me), .int (nI dp), .int (bI up), .int (nI mi), .int (nI ru), .long wp, .long wl])), (sc, .inr (4, [.ref s1, .ref s2, .int (nI sm)])), (s1, .inl (cJ, 600, .inr (.inl EC))), (s2, .inl (cI, 30, .inl (nA RU)))] (rnS EC (fun _ => rr) ki sm)) args s 0 0 A) (F0 m 17 ls []) := by
    intro n
    induction n with
    | zero =>
      intro i hcnti H locs hP hD hS ls hl
      obtain rfl : sm = i := by omega
      refine lv_iload hx hb dX5_rainBy_17 (lv_at hl 4 rfl) ?_
      refine lv_aload_n hx hb dX5_rainBy_19 rfl (lv_at hl 0 rfl) ?_
      refine va_get (D := D) (ci := 5) (v := .ref sc) (C := RX5) (T := TX5) (N := 14) hx hb hts hinX5 hown hK hP 0 rfl rfl 4 (by decide) hf40 (fun _ h9 => h9) rfl dX5_rainBy_20 ?_
      refine va_getN (D := D) (ci := 4) (v := .int (nI sm)) (C := RX4) (T := TX4) (N := 3) hx hb hts hinX4 hown hK hP 1 rfl rfl 2 (by decide) (va_Nw.use rfl hT.2.2.2.2.2.2.2.2.2.1) (fun _ h9 => h9) rfl dX5_rainBy_23 ?_
      refine ci_ge (tgt := 52) hx hb dX5_rainBy_26 (by decide) (nT (by omega)) (nT (by omega)) (fun c_26 => ?_) (fun c_26 => by omega)
      refine lv_lload_n hx hb dX5_rainBy_52 rfl (lv_at hl 3 rfl) ?_
      exact fin_l hx hb hr hlocks hP hD hS (rfl) dX5_rainBy_53
    | succ n ih =>
      intro i hcnti H locs hP hD hS ls hl
      have hlti : i < sm := by omega
      refine lv_iload hx hb dX5_rainBy_17 (lv_at hl 4 rfl) ?_
      refine lv_aload_n hx hb dX5_rainBy_19 rfl (lv_at hl 0 rfl) ?_
      refine va_get (D := D) (ci := 5) (v := .ref sc) (C := RX5) (T := TX5) (N := 14) hx hb hts hinX5 hown hK hP 0 rfl rfl 4 (by decide) hf40 (fun _ h9 => h9) rfl dX5_rainBy_20 ?_
      refine va_getN (D := D) (ci := 4) (v := .int (nI sm)) (C := RX4) (T := TX4) (N := 3) hx hb hts hinX4 hown hK hP 1 rfl rfl 2 (by decide) (va_Nw.use rfl hT.2.2.2.2.2.2.2.2.2.1) (fun _ h9 => h9) rfl dX5_rainBy_23 ?_
      refine ci_ge (tgt := 52) hx hb dX5_rainBy_26 (by decide) (nT (by omega)) (nT (by omega)) (fun c_26 => by omega) (fun c_26 => ?_)
      refine lv_lload_n hx hb dX5_rainBy_29 rfl (lv_at hl 3 rfl) ?_
      refine lv_aload_n hx hb dX5_rainBy_30 rfl (lv_at hl 0 rfl) ?_
      refine va_get (D := D) (ci := 5) (v := .ref sc) (C := RX5) (T := TX5) (N := 14) hx hb hts hinX5 hown hK hP 0 rfl rfl 4 (by decide) hf40 (fun _ h9 => h9) rfl dX5_rainBy_31 ?_
      refine lv_iload hx hb dX5_rainBy_34 (lv_at hl 4 rfl) ?_
      refine lv_iload_n hx hb dX5_rainBy_36 rfl (lv_at hl 1 rfl) ?_
      refine cr_l (wc := [(sc, .inr (4, [.ref s1, .ref s2, .int (nI sm)])), (s1, .inl (cJ, 600, .inr (.inl EC))), (s2, .inl (cI, 30, .inl (nA RU)))]) (w1 := [(sc, .inr (4, [.ref s1, .ref s2, .int (nI sm)])), (s1, .inl (cJ, 600, .inr (.inl EC))), (s2, .inl (cI, 30, .inl (nA RU)))]) (ws2 := [(h0, .inr (5, [.ref ai, .ref pu, .ref pa, .ref ga, .ref sc, .ref hi, .ref gr, .int (nI me), .int (nI dp), .int (bI up), .int (nI mi), .int (nI ru), .long wp, .long wl])), (sc, .inr (4, [.ref s1, .ref s2, .int (nI sm)])), (s1, .inl (cJ, 600, .inr (.inl EC))), (s2, .inl (cI, 30, .inl (nA RU)))]) hP hD hS hA [1, 2, 3] rfl rfl rfl (va_runV (As := [.int (nI i), .int (nI ki)]) (rest := [.long (rnS EC (fun _ => rr) ki i)]) ⟨hx, hb, hml, hown, hts⟩ (c_X4_echoAt_in l D cI cJ cZ sc s1 s2 EC RU sm i ki (by omega) (by omega) (by omega) H.size) (cwV 2 hts gX5_rainBy_X4_echoAt rfl rfl rfl (by decide +kernel) ⟨Nat.le_of_ble_eq_true rfl, Nat.le_of_ble_eq_true rfl⟩) (pvV hT hP hD [1, 2, 3] rfl rfl 0 rfl rfl) rfl rfl hl.1 rfl (lv_room (Nat.le_of_ble_eq_true rfl)) dX5_rainBy_37 ⟨Nat.zero_le _, Nat.zero_le _⟩) (fun H locs hP hD hS => ?_)
      refine lv_iload_n hx hb dX5_rainBy_40 rfl (lv_at hl 2 rfl) ?_
      refine cr_l (wc := []) (w1 := []) (ws2 := [(h0, .inr (5, [.ref ai, .ref pu, .ref pa, .ref ga, .ref sc, .ref hi, .ref gr, .int (nI me), .int (nI dp), .int (bI up), .int (nI mi), .int (nI ru), .long wp, .long wl])), (sc, .inr (4, [.ref s1, .ref s2, .int (nI sm)])), (s1, .inl (cJ, 600, .inr (.inl EC))), (s2, .inl (cI, 30, .inl (nA RU)))]) hP hD hS hA [] rfl rfl rfl (va_runS (As := [.long (EC (20 * i + ki)), .int (nI rr)]) (rest := [.long (rnS EC (fun _ => rr) ki i)]) ⟨hx, hb, hml, hown, hts⟩ (c_X5_rainOf l D cI cJ cZ (EC (20 * i + ki)) rr (by omega) (by omega) H.size) (va_cwS 2 hts gX5_rainBy_X5_rainOf rfl rfl rfl (by decide +kernel) ⟨Nat.le_of_ble_eq_true rfl, Nat.le_of_ble_eq_true rfl⟩) (pvS hT hP hD [] rfl rfl) rfl rfl hl.1 rfl (lv_room (Nat.le_of_ble_eq_true rfl)) dX5_rainBy_41 ⟨Nat.zero_le _, Nat.zero_le _⟩) (fun H locs hP hD hS => ?_)
      refine lv_ladd hx hb dX5_rainBy_44 ?_
      refine lv_lstore_n (lv' := [(3, .long ((rnS EC (fun _ => rr) ki i) + ((EC (20 * i + ki)) / (nI rr).toInt64))), (0, .ref h0), (1, .int (nI ki)), (2, .int (nI rr)), (5, .int (nI i))]) hx hb dX5_rainBy_45 rfl hl (by decide) rfl (fun ls hl => ?_)
      refine lv_iinc (v := nI (i + 1)) (lv' := [(5, .int (nI (i + 1))), (3, .long ((rnS EC (fun _ => rr) ki i) + ((EC (20 * i + ki)) / (nI rr).toInt64))), (0, .ref h0), (1, .int (nI ki)), (2, .int (nI rr))]) hx hb dX5_rainBy_46 hl (k := 4) rfl (n_inc i) (by decide) rfl (fun ls hl => ?_)
      refine lv_goto (tgt := 17) hx hb dX5_rainBy_49 (by decide) ?_
      have hle : ([(0, .ref h0), (1, .int (nI ki)), (2, .int (nI rr)), (3, .long (rnS EC (fun _ => rr) ki (i + 1))), (5, .int (nI (i + 1)))] : List (Nat × Value)) = [(0, .ref h0), (1, .int (nI ki)), (2, .int (nI rr)), (3, .long ((rnS EC (fun _ => rr) ki i) + ((EC (20 * i + ki)) / (nI rr).toInt64))), (5, .int (nI (i + 1)))] := rfl
      exact ih (i + 1) (by omega) H locs hP hD hS ls (by rw [hle]; exact lv_sub hl [2, 3, 4, 1, 0] rfl)
  have hle : ([(0, .ref h0), (1, .int (nI ki)), (2, .int (nI rr)), (3, .long (rnS EC (fun _ => rr) ki 0)), (5, .int (nI 0))] : List (Nat × Value)) = [(0, .ref h0), (1, .int (nI ki)), (2, .int (nI rr)), (3, .long 0), (5, .int (nI 0))] := rfl
  exact lp17 sm 0 (by omega) H locs hP hD hS ls (by rw [hle]; exact lv_sub hl [2, 3, 4, 1, 0] rfl)
set_option maxHeartbeats 4000000 in
set_option maxRecDepth 100000 in
theorem c_X5_motion (l : Launch) (D : va_G) (cI cJ cZ : ClassId) (h0 : Nat) (ai : Nat) (pu : Nat) (pa : Nat) (ga : Nat) (sc : Nat) (hi : Nat) (gr : Nat) (me : Nat) (dp : Nat) (up : Bool) (mi : Nat) (ru : Nat) (wp : Int64) (wl : Int64) (s1 : Nat) (s2 : Nat) (EC : Nat → Int64) (RU : Nat → Nat) (sm : Nat) (hs2 : 2 ≤ sm) (hsm : sm ≤ 30) (sz : Nat) : Met l yX5_motion wsX5_motion ({ frames := 3, cells := 0, slots := 0, locals := 73 } : Room) (va_Pc [.ref h0] (mPre D cI cJ cZ [(h0, .inr (5, [.ref ai, .ref pu, .ref pa, .ref ga, .ref sc, .ref hi, .ref gr, .int (nI me), .int (nI dp), .int (bI up), .int (nI mi), .int (nI ru), .long wp, .long wl])), (sc, .inr (4, [.ref s1, .ref s2, .int (nI sm)])), (s1, .inl (cJ, 600, .inr (.inl EC))), (s2, .inl (cI, 30, .inl (nA RU)))] sz)) (Qi9 D (va_A [(h0, .inr (5, [.ref ai, .ref pu, .ref pa, .ref ga, .ref sc, .ref hi, .ref gr, .int (nI me), .int (nI dp), .int (bI up), .int (nI mi), .int (nI ru), .long wp, .long wl])), (sc, .inr (4, [.ref s1, .ref s2, .int (nI sm)])), (s1, .inl (cJ, 600, .inr (.inl EC))), (s2, .inl (cI, 30, .inl (nA RU)))] sz) [(h0, .inr (5, [.ref ai, .ref pu, .ref pa, .ref ga, .ref sc, .ref hi, .ref gr, .int (nI me), .int (nI dp), .int (bI up), .int (nI mi), .int (nI ru), .long wp, .long wl])), (sc, .inr (4, [.ref s1, .ref s2, .int (nI sm)])), (s1, .inl (cJ, 600, .inr (.inl EC))), (s2, .inl (cI, 30, .inl (nA RU)))] (zI (moB (fun zz => dfS EC sm zz 20) 3))) 0 0 (va_A [(h0, .inr (5, [.ref ai, .ref pu, .ref pa, .ref ga, .ref sc, .ref hi, .ref gr, .int (nI me), .int (nI dp), .int (bI up), .int (nI mi), .int (nI ru), .long wp, .long wl])), (sc, .inr (4, [.ref s1, .ref s2, .int (nI sm)])), (s1, .inl (cJ, 600, .inr (.inl EC))), (s2, .inl (cI, 30, .inl (nA RU)))] sz) := by
  refine Met.ofW (cc := cX5_motion) (maxL := 9) (ret := (some .int)) (by decide) rfl ?_
  intro p e s m args below meth c s₁ B hml hv
  obtain ⟨hargs, hsz, hP, hT, hD0⟩ := hv
  have hx := B.exec
  have hb := B.bytes
  have hr := B.returns
  have hts := atoms_spec (ws := wsX5_motion) B.pre
  have hown : s.vm.findClass RX5 = some m.cls := findClass_of_methodNamed B.named
  have hlocks := B.notSynchronized
  subst hsz
  have hK := hT.1
  have hD := hD0.self (sz := s.heap.size)
  generalize hAe : va_A [(h0, .inr (5, [.ref ai, .ref pu, .ref pa, .ref ga, .ref sc, .ref hi, .ref gr, .int (nI me), .int (nI dp), .int (bI up), .int (nI mi), .int (nI ru), .long wp, .long wl])), (sc, .inr (4, [.ref s1, .ref s2, .int (nI sm)])), (s1, .inl (cJ, 600, .inr (.inl EC))), (s2, .inl (cI, 30, .inl (nA RU)))] s.heap.size = A at hD ⊢
  have hA : ∀ q : Nat, s.heap.size ≤ q → A q := fun q h => by rw [← hAe]; exact Or.inr h
  have hS : va_S A s.heap s.heap [] := va_S.rf
  obtain ⟨H, hHe⟩ : ∃ H : Heap, H = s.heap := ⟨_, rfl⟩
  have hS : va_S A s.heap H [] := by rw [hHe]; exact va_S.rf
  rw [← hHe] at hP
  suffices K0 : W p l e (headSpec wsX5_motion ({ frames := 3, cells := 0, slots := 0, locals := 73 } : Room)).room s m args below meth c H [] 0 0 (MQ below (Qi9 D A [(h0, .inr (5, [.ref ai, .ref pu, .ref pa, .ref ga, .ref sc, .ref hi, .ref gr, .int (nI me), .int (nI dp), .int (bI up), .int (nI mi), .int (nI ru), .long wp, .long wl])), (sc, .inr (4, [.ref s1, .ref s2, .int (nI sm)])), (s1, .inl (cJ, 600, .inr (.inl EC))), (s2, .inl (cI, 30, .inl (nA RU)))] (zI (moB (fun zz => dfS EC sm zz 20) 3))) args s 0 0 A) (entryFrame m args 9) by rw [hHe] at K0; exact K0
  refine W.eq (g2 := entryFrame m ([.ref h0] : List Value).toArray 9) (by rw [hargs]) ?_
  have hl := lv_entry ([.ref h0]) (n := 9) (Nat.le_of_ble_eq_true rfl)
  rw [lg_entry_eq]
  generalize (lg_sl ([.ref h0]) ++ List.replicate (9 - (lg_sl ([.ref h0])).length) Slot.unset).toArray = ls at hl ⊢
  have hl : lv_has ls 9 [(0, .ref h0)] := hl
  generalize ([] : List Loc) = locs at hS ⊢
  have hinX5 : ∀ w ∈ wsX50, w ∈ wsX5_motion := by decide +kernel
  have hf40 := hts (.fieldLink RX5 40 "Brightband" "scans" "LBrightband$Scans;") (by decide +kernel)
  have hinX4 : ∀ w ∈ wsX40, w ∈ wsX5_motion := by decide +kernel
  refine lv_aload_n hx hb dX5_motion_0 rfl (lv_at hl 0 rfl) ?_
  refine va_get (D := D) (ci := 5) (v := .ref sc) (C := RX5) (T := TX5) (N := 14) hx hb hts hinX5 hown hK hP 0 rfl rfl 4 (by decide) hf40 (fun _ h9 => h9) rfl dX5_motion_1 ?_
  refine va_getN (D := D) (ci := 4) (v := .int (nI sm)) (C := RX4) (T := TX4) (N := 3) hx hb hts hinX4 hown hK hP 1 rfl rfl 2 (by decide) (va_Nw.use rfl hT.2.2.2.2.2.2.2.2.2.1) (fun _ h9 => h9) rfl dX5_motion_4 ?_
  refine lv_iconst (v := nI 2) hx hb dX5_motion_7 (by decide) ?_
  refine ci_ge (tgt := 21) hx hb dX5_motion_8 (by decide) (nT (by omega)) (nT (by omega)) (fun c_8 => ?_) (fun c_8 => by omega)
  refine lv_iconst (v := nI 0) hx hb dX5_motion_21 (by decide) ?_
  refine tp_i (show (nI 0 : Int32) = zI 0 from rfl) ?_
  refine lv_istore_n (lv' := [(1, .int (zI 0)), (0, .ref h0)]) hx hb dX5_motion_22 rfl hl (by decide) rfl (fun ls hl => ?_)
  refine lv_aload_n hx hb dX5_motion_23 rfl (lv_at hl 1 rfl) ?_
  refine va_get (D := D) (ci := 5) (v := .ref sc) (C := RX5) (T := TX5) (N := 14) hx hb hts hinX5 hown hK hP 0 rfl rfl 4 (by decide) hf40 (fun _ h9 => h9) rfl dX5_motion_24 ?_
  refine lv_iconst (v := nI 0) hx hb dX5_motion_27 (by decide) ?_
  refine tp_i (show (nI 0 : Int32) = zI 0 from rfl) ?_
  refine cr_l (wc := [(sc, .inr (4, [.ref s1, .ref s2, .int (nI sm)])), (s1, .inl (cJ, 600, .inr (.inl EC))), (s2, .inl (cI, 30, .inl (nA RU)))]) (w1 := [(sc, .inr (4, [.ref s1, .ref s2, .int (nI sm)])), (s1, .inl (cJ, 600, .inr (.inl EC))), (s2, .inl (cI, 30, .inl (nA RU)))]) (ws2 := [(h0, .inr (5, [.ref ai, .ref pu, .ref pa, .ref ga, .ref sc, .ref hi, .ref gr, .int (nI me), .int (nI dp), .int (bI up), .int (nI mi), .int (nI ru), .long wp, .long wl])), (sc, .inr (4, [.ref s1, .ref s2, .int (nI sm)])), (s1, .inl (cJ, 600, .inr (.inl EC))), (s2, .inl (cI, 30, .inl (nA RU)))]) hP hD hS hA [1, 2, 3] rfl rfl rfl (va_runV (As := [.int (zI 0)]) (rest := []) ⟨hx, hb, hml, hown, hts⟩ (c_X4_differenceBy l D cI cJ cZ sc s1 s2 EC RU sm 0 (by omega) (by omega) (by omega) (by omega) H.size) (cwV 1 hts gX5_motion_X4_differenceBy rfl rfl rfl (by decide +kernel) ⟨Nat.le_of_ble_eq_true rfl, Nat.le_of_ble_eq_true rfl⟩) (pvV hT hP hD [1, 2, 3] rfl rfl 0 rfl rfl) rfl rfl hl.1 rfl (lv_room (Nat.le_of_ble_eq_true rfl)) dX5_motion_28 ⟨Nat.zero_le _, Nat.zero_le _⟩) (fun H locs hP hD hS => ?_)
  refine lv_lstore_n (lv' := [(2, .long (dfS EC sm 0 20)), (1, .int (zI 0)), (0, .ref h0)]) hx hb dX5_motion_31 rfl hl (by decide) rfl (fun ls hl => ?_)
  refine lv_iconst (v := nI 1) hx hb dX5_motion_32 (by decide) ?_
  refine lv_istore (lv' := [(4, .int (nI 1)), (2, .long (dfS EC sm 0 20)), (1, .int (zI 0)), (0, .ref h0)]) hx hb dX5_motion_33 hl (by decide) rfl (fun ls hl => ?_)
  have lp35 : ∀ (n f : Nat), f + n = 3 → ∀ (H : Heap) (locs : List Loc), va_P D vwCl [(h0, .inr (5, [.ref ai, .ref pu, .ref pa, .ref ga, .ref sc, .ref hi, .ref gr, .int (nI me), .int (nI dp), .int (bI up), .int (nI mi), .int (nI ru), .long wp, .long wl])), (sc, .inr (4, [.ref s1, .ref s2, .int (nI sm)])), (s1, .inl (cJ, 600, .inr (.inl EC))), (s2, .inl (cI, 30, .inl (nA RU)))] H → va_D A [(h0, .inr (5, [.ref ai, .ref pu, .ref pa, .ref ga, .ref sc, .ref hi, .ref gr, .int (nI me), .int (nI dp), .int (bI up), .int (nI mi), .int (nI ru), .long wp, .long wl])), (sc, .inr (4, [.ref s1, .ref s2, .int (nI sm)])), (s1, .inl (cJ, 600, .inr (.inl EC))), (s2, .inl (cI, 30, .inl (nA RU)))] → va_S A s.heap H locs → ∀ (ls : Array Slot), lv_has ls 9 [(0, .ref h0), (1, .int (zI (moB (fun zz => dfS EC sm zz 20) f))), (2, .long (moL (fun zz => dfS EC sm zz 20) f)), (4, .int (nI (f + 1)))] → W p l e (headSpec wsX5_motion ({ frames := 3, cells := 0, slots := 0, locals := 73 } : Room)).room s m args below meth c H locs 0 0 (MQ below (Qi9 D A [(h0, .inr (5, [.ref ai, .ref pu, .ref pa, .ref ga, .ref sc, .ref hi, .ref gr, .int (nI me), .int (nI dp), .int (bI up), .int (nI mi), .int (nI ru), .long wp, .long wl])), (sc, .inr (4, [.ref s1, .ref s2, .int (nI sm)])), (s1, .inl (cJ, 600, .inr (.inl EC))), (s2, .inl (cI, 30, .inl (nA RU)))] (zI (moB (fun zz => dfS EC sm zz 20) 3))) args s 0 0 A) (F0 m 35 ls []) := by
    intro n
    induction n with
    | zero =>
      intro f hcntf H locs hP hD hS ls hl
      obtain rfl : 3 = f := by omega
      refine lv_iload hx hb dX5_motion_35 (lv_at hl 3 rfl) ?_
      refine lv_iconst (v := nI 3) hx hb dX5_motion_37 (by decide) ?_
      refine ci_gt (tgt := 97) hx hb dX5_motion_38 (by decide) (nT (by omega)) (nT (by omega)) (fun c_38 => ?_) (fun c_38 => by omega)
      refine lv_iload_n hx hb dX5_motion_97 rfl (lv_at hl 1 rfl) ?_
      exact fin_i hx hb hr hlocks hP hD hS (rfl) dX5_motion_98
    | succ n ih =>
      intro f hcntf H locs hP hD hS ls hl
      have hltf : f < 3 := by omega
      refine lv_iload hx hb dX5_motion_35 (lv_at hl 3 rfl) ?_
      refine lv_iconst (v := nI 3) hx hb dX5_motion_37 (by decide) ?_
      refine ci_gt (tgt := 97) hx hb dX5_motion_38 (by decide) (nT (by omega)) (nT (by omega)) (fun c_38 => by omega) (fun c_38 => ?_)
      refine lv_aload_n hx hb dX5_motion_41 rfl (lv_at hl 0 rfl) ?_
      refine va_get (D := D) (ci := 5) (v := .ref sc) (C := RX5) (T := TX5) (N := 14) hx hb hts hinX5 hown hK hP 0 rfl rfl 4 (by decide) hf40 (fun _ h9 => h9) rfl dX5_motion_42 ?_
      refine lv_iload hx hb dX5_motion_45 (lv_at hl 3 rfl) ?_
      refine lv_ineg hx hb dX5_motion_47 ?_
      refine tp_i (show (-nI (f + 1) : Int32) = zI (-((f : Int) + 1)) from (show -nI (f + 1) = zI (-((f : Int) + 1)) by rw [nz, show zI (((f + 1 : Nat)) : Int) = Int32.ofInt ((f : Int) + 1) from rfl]; exact (Int32.ofInt_neg _).symm)) ?_
      refine cr_l (wc := [(sc, .inr (4, [.ref s1, .ref s2, .int (nI sm)])), (s1, .inl (cJ, 600, .inr (.inl EC))), (s2, .inl (cI, 30, .inl (nA RU)))]) (w1 := [(sc, .inr (4, [.ref s1, .ref s2, .int (nI sm)])), (s1, .inl (cJ, 600, .inr (.inl EC))), (s2, .inl (cI, 30, .inl (nA RU)))]) (ws2 := [(h0, .inr (5, [.ref ai, .ref pu, .ref pa, .ref ga, .ref sc, .ref hi, .ref gr, .int (nI me), .int (nI dp), .int (bI up), .int (nI mi), .int (nI ru), .long wp, .long wl])), (sc, .inr (4, [.ref s1, .ref s2, .int (nI sm)])), (s1, .inl (cJ, 600, .inr (.inl EC))), (s2, .inl (cI, 30, .inl (nA RU)))]) hP hD hS hA [1, 2, 3] rfl rfl rfl (va_runV (As := [.int (zI (-((f : Int) + 1)))]) (rest := []) ⟨hx, hb, hml, hown, hts⟩ (c_X4_differenceBy l D cI cJ cZ sc s1 s2 EC RU sm (-((f : Int) + 1)) (by omega) (by omega) (by omega) (by omega) H.size) (cwV 1 hts gX5_motion_X4_differenceBy rfl rfl rfl (by decide +kernel) ⟨Nat.le_of_ble_eq_true rfl, Nat.le_of_ble_eq_true rfl⟩) (pvV hT hP hD [1, 2, 3] rfl rfl 0 rfl rfl) rfl rfl hl.1 rfl (lv_room (Nat.le_of_ble_eq_true rfl)) dX5_motion_48 ⟨Nat.zero_le _, Nat.zero_le _⟩) (fun H locs hP hD hS => ?_)
      refine lv_lstore (lv' := [(5, .long (dfS EC sm (-((f : Int) + 1)) 20)), (0, .ref h0), (1, .int (zI (moB (fun zz => dfS EC sm zz 20) f))), (2, .long (moL (fun zz => dfS EC sm zz 20) f)), (4, .int (nI (f + 1)))]) hx hb dX5_motion_51 hl (by decide) rfl (fun ls hl => ?_)
      refine lv_lload hx hb dX5_motion_53 (lv_at hl 0 rfl) ?_
      refine lv_lload_n hx hb dX5_motion_55 rfl (lv_at hl 3 rfl) ?_
      refine cl_ge (tgt := 67) hx hb dX5_motion_56 dX5_motion_57 (by decide) (fun cln => ?_) (fun cln => ?_)
      · have hln : ¬ dfS EC sm (-((f : Int) + 1)) 20 < moL (fun zz => dfS EC sm zz 20) f := Int64.not_lt.mpr cln
        refine lv_aload_n hx hb dX5_motion_67 rfl (lv_at hl 1 rfl) ?_
        refine va_get (D := D) (ci := 5) (v := .ref sc) (C := RX5) (T := TX5) (N := 14) hx hb hts hinX5 hown hK hP 0 rfl rfl 4 (by decide) hf40 (fun _ h9 => h9) rfl dX5_motion_68 ?_
        refine lv_iload hx hb dX5_motion_71 (lv_at hl 4 rfl) ?_
        refine tp_i (show (nI (f + 1) : Int32) = zI ((f : Int) + 1) from (nz (f + 1))) ?_
        refine cr_l (wc := [(sc, .inr (4, [.ref s1, .ref s2, .int (nI sm)])), (s1, .inl (cJ, 600, .inr (.inl EC))), (s2, .inl (cI, 30, .inl (nA RU)))]) (w1 := [(sc, .inr (4, [.ref s1, .ref s2, .int (nI sm)])), (s1, .inl (cJ, 600, .inr (.inl EC))), (s2, .inl (cI, 30, .inl (nA RU)))]) (ws2 := [(h0, .inr (5, [.ref ai, .ref pu, .ref pa, .ref ga, .ref sc, .ref hi, .ref gr, .int (nI me), .int (nI dp), .int (bI up), .int (nI mi), .int (nI ru), .long wp, .long wl])), (sc, .inr (4, [.ref s1, .ref s2, .int (nI sm)])), (s1, .inl (cJ, 600, .inr (.inl EC))), (s2, .inl (cI, 30, .inl (nA RU)))]) hP hD hS hA [1, 2, 3] rfl rfl rfl (va_runV (As := [.int (zI ((f : Int) + 1))]) (rest := []) ⟨hx, hb, hml, hown, hts⟩ (c_X4_differenceBy l D cI cJ cZ sc s1 s2 EC RU sm ((f : Int) + 1) (by omega) (by omega) (by omega) (by omega) H.size) (cwV 1 hts gX5_motion_X4_differenceBy rfl rfl rfl (by decide +kernel) ⟨Nat.le_of_ble_eq_true rfl, Nat.le_of_ble_eq_true rfl⟩) (pvV hT hP hD [1, 2, 3] rfl rfl 0 rfl rfl) rfl rfl hl.1 rfl (lv_room (Nat.le_of_ble_eq_true rfl)) dX5_motion_73 ⟨Nat.zero_le _, Nat.zero_le _⟩) (fun H locs hP hD hS => ?_)
        refine lv_lstore (lv' := [(7, .long (dfS EC sm ((f : Int) + 1) 20)), (5, .long (dfS EC sm (-((f : Int) + 1)) 20)), (0, .ref h0), (1, .int (zI (moB (fun zz => dfS EC sm zz 20) f))), (2, .long (moL (fun zz => dfS EC sm zz 20) f)), (4, .int (nI (f + 1)))]) hx hb dX5_motion_76 hl (by decide) rfl (fun ls hl => ?_)
        refine lv_lload hx hb dX5_motion_78 (lv_at hl 0 rfl) ?_
        refine lv_lload_n hx hb dX5_motion_80 rfl (lv_at hl 4 rfl) ?_
        refine cl_ge (tgt := 91) hx hb dX5_motion_81 dX5_motion_82 (by decide) (fun clp => ?_) (fun clp => ?_)
        · have hlp : ¬ dfS EC sm ((f : Int) + 1) 20 < moL (fun zz => dfS EC sm zz 20) f := Int64.not_lt.mpr clp
          have hlo : (if dfS EC sm (-((f : Int) + 1)) 20 < moL (fun zz => dfS EC sm zz 20) f then dfS EC sm (-((f : Int) + 1)) 20 else moL (fun zz => dfS EC sm zz 20) f) = moL (fun zz => dfS EC sm zz 20) f := if_neg hln
          have hm1 : moL (fun zz => dfS EC sm zz 20) (f + 1) = moL (fun zz => dfS EC sm zz 20) f := by show (if dfS EC sm ((f : Int) + 1) 20 < (if dfS EC sm (-((f : Int) + 1)) 20 < moL (fun zz => dfS EC sm zz 20) f then dfS EC sm (-((f : Int) + 1)) 20 else moL (fun zz => dfS EC sm zz 20) f) then dfS EC sm ((f : Int) + 1) 20 else (if dfS EC sm (-((f : Int) + 1)) 20 < moL (fun zz => dfS EC sm zz 20) f then dfS EC sm (-((f : Int) + 1)) 20 else moL (fun zz => dfS EC sm zz 20) f)) = _; rw [hlo, if_neg hlp]
          have hm2 : moB (fun zz => dfS EC sm zz 20) (f + 1) = moB (fun zz => dfS EC sm zz 20) f := by show (if dfS EC sm ((f : Int) + 1) 20 < (if dfS EC sm (-((f : Int) + 1)) 20 < moL (fun zz => dfS EC sm zz 20) f then dfS EC sm (-((f : Int) + 1)) 20 else moL (fun zz => dfS EC sm zz 20) f) then (f : Int) + 1 else if dfS EC sm (-((f : Int) + 1)) 20 < moL (fun zz => dfS EC sm zz 20) f then -((f : Int) + 1) else moB (fun zz => dfS EC sm zz 20) f) = _; rw [hlo, if_neg hlp, if_neg hln]
          refine lv_iinc (v := nI (f + 1 + 1)) (lv' := [(4, .int (nI (f + 1 + 1))), (7, .long (dfS EC sm ((f : Int) + 1) 20)), (5, .long (dfS EC sm (-((f : Int) + 1)) 20)), (0, .ref h0), (1, .int (zI (moB (fun zz => dfS EC sm zz 20) f))), (2, .long (moL (fun zz => dfS EC sm zz 20) f))]) hx hb dX5_motion_91 hl (k := 5) rfl (n_inc (f + 1)) (by decide) rfl (fun ls hl => ?_)
          refine lv_goto (tgt := 35) hx hb dX5_motion_94 (by decide) ?_
          have hle : ([(0, .ref h0), (1, .int (zI (moB (fun zz => dfS EC sm zz 20) (f + 1)))), (2, .long (moL (fun zz => dfS EC sm zz 20) (f + 1))), (4, .int (nI ((f + 1) + 1)))] : List (Nat × Value)) = [(0, .ref h0), (1, .int (zI (moB (fun zz => dfS EC sm zz 20) f))), (2, .long (moL (fun zz => dfS EC sm zz 20) f)), (4, .int (nI (f + 1 + 1)))] := (by rw [show moL (fun zz => dfS EC sm zz 20) (f + 1) = _ from hm1, show moB (fun zz => dfS EC sm zz 20) (f + 1) = _ from hm2])
          exact ih (f + 1) (by omega) H locs hP hD hS ls (by rw [hle]; exact lv_sub hl [3, 4, 5, 0] rfl)
        · have hlp : dfS EC sm ((f : Int) + 1) 20 < moL (fun zz => dfS EC sm zz 20) f := Int64.not_le.mp clp
          have hlo : (if dfS EC sm (-((f : Int) + 1)) 20 < moL (fun zz => dfS EC sm zz 20) f then dfS EC sm (-((f : Int) + 1)) 20 else moL (fun zz => dfS EC sm zz 20) f) = moL (fun zz => dfS EC sm zz 20) f := if_neg hln
          have hm1 : moL (fun zz => dfS EC sm zz 20) (f + 1) = dfS EC sm ((f : Int) + 1) 20 := by show (if dfS EC sm ((f : Int) + 1) 20 < (if dfS EC sm (-((f : Int) + 1)) 20 < moL (fun zz => dfS EC sm zz 20) f then dfS EC sm (-((f : Int) + 1)) 20 else moL (fun zz => dfS EC sm zz 20) f) then dfS EC sm ((f : Int) + 1) 20 else (if dfS EC sm (-((f : Int) + 1)) 20 < moL (fun zz => dfS EC sm zz 20) f then dfS EC sm (-((f : Int) + 1)) 20 else moL (fun zz => dfS EC sm zz 20) f)) = _; rw [hlo, if_pos hlp]
          have hm2 : moB (fun zz => dfS EC sm zz 20) (f + 1) = (f : Int) + 1 := by show (if dfS EC sm ((f : Int) + 1) 20 < (if dfS EC sm (-((f : Int) + 1)) 20 < moL (fun zz => dfS EC sm zz 20) f then dfS EC sm (-((f : Int) + 1)) 20 else moL (fun zz => dfS EC sm zz 20) f) then (f : Int) + 1 else if dfS EC sm (-((f : Int) + 1)) 20 < moL (fun zz => dfS EC sm zz 20) f then -((f : Int) + 1) else moB (fun zz => dfS EC sm zz 20) f) = _; rw [hlo, if_pos hlp]
          refine lv_lload hx hb dX5_motion_85 (lv_at hl 0 rfl) ?_
          refine lv_lstore_n (lv' := [(2, .long (dfS EC sm ((f : Int) + 1) 20)), (7, .long (dfS EC sm ((f : Int) + 1) 20)), (5, .long (dfS EC sm (-((f : Int) + 1)) 20)), (0, .ref h0), (1, .int (zI (moB (fun zz => dfS EC sm zz 20) f))), (4, .int (nI (f + 1)))]) hx hb dX5_motion_87 rfl hl (by decide) rfl (fun ls hl => ?_)
          refine lv_iload hx hb dX5_motion_88 (lv_at hl 5 rfl) ?_
          refine tp_i (show (nI (f + 1) : Int32) = zI ((f : Int) + 1) from (nz (f + 1))) ?_
          refine lv_istore_n (lv' := [(1, .int (zI ((f : Int) + 1))), (2, .long (dfS EC sm ((f : Int) + 1) 20)), (7, .long (dfS EC sm ((f : Int) + 1) 20)), (5, .long (dfS EC sm (-((f : Int) + 1)) 20)), (0, .ref h0), (4, .int (nI (f + 1)))]) hx hb dX5_motion_90 rfl hl (by decide) rfl (fun ls hl => ?_)
          refine lv_iinc (v := nI (f + 1 + 1)) (lv' := [(4, .int (nI (f + 1 + 1))), (1, .int (zI ((f : Int) + 1))), (2, .long (dfS EC sm ((f : Int) + 1) 20)), (7, .long (dfS EC sm ((f : Int) + 1) 20)), (5, .long (dfS EC sm (-((f : Int) + 1)) 20)), (0, .ref h0)]) hx hb dX5_motion_91 hl (k := 5) rfl (n_inc (f + 1)) (by decide) rfl (fun ls hl => ?_)
          refine lv_goto (tgt := 35) hx hb dX5_motion_94 (by decide) ?_
          have hle : ([(0, .ref h0), (1, .int (zI (moB (fun zz => dfS EC sm zz 20) (f + 1)))), (2, .long (moL (fun zz => dfS EC sm zz 20) (f + 1))), (4, .int (nI ((f + 1) + 1)))] : List (Nat × Value)) = [(0, .ref h0), (1, .int (zI ((f : Int) + 1))), (2, .long (dfS EC sm ((f : Int) + 1) 20)), (4, .int (nI (f + 1 + 1)))] := (by rw [show moL (fun zz => dfS EC sm zz 20) (f + 1) = _ from hm1, show moB (fun zz => dfS EC sm zz 20) (f + 1) = _ from hm2])
          exact ih (f + 1) (by omega) H locs hP hD hS ls (by rw [hle]; exact lv_sub hl [5, 1, 2, 0] rfl)
      · have hln : dfS EC sm (-((f : Int) + 1)) 20 < moL (fun zz => dfS EC sm zz 20) f := Int64.not_le.mp cln
        refine lv_lload hx hb dX5_motion_60 (lv_at hl 0 rfl) ?_
        refine lv_lstore_n (lv' := [(2, .long (dfS EC sm (-((f : Int) + 1)) 20)), (5, .long (dfS EC sm (-((f : Int) + 1)) 20)), (0, .ref h0), (1, .int (zI (moB (fun zz => dfS EC sm zz 20) f))), (4, .int (nI (f + 1)))]) hx hb dX5_motion_62 rfl hl (by decide) rfl (fun ls hl => ?_)
        refine lv_iload hx hb dX5_motion_63 (lv_at hl 4 rfl) ?_
        refine lv_ineg hx hb dX5_motion_65 ?_
        refine tp_i (show (-nI (f + 1) : Int32) = zI (-((f : Int) + 1)) from (show -nI (f + 1) = zI (-((f : Int) + 1)) by rw [nz, show zI (((f + 1 : Nat)) : Int) = Int32.ofInt ((f : Int) + 1) from rfl]; exact (Int32.ofInt_neg _).symm)) ?_
        refine lv_istore_n (lv' := [(1, .int (zI (-((f : Int) + 1)))), (2, .long (dfS EC sm (-((f : Int) + 1)) 20)), (5, .long (dfS EC sm (-((f : Int) + 1)) 20)), (0, .ref h0), (4, .int (nI (f + 1)))]) hx hb dX5_motion_66 rfl hl (by decide) rfl (fun ls hl => ?_)
        refine lv_aload_n hx hb dX5_motion_67 rfl (lv_at hl 3 rfl) ?_
        refine va_get (D := D) (ci := 5) (v := .ref sc) (C := RX5) (T := TX5) (N := 14) hx hb hts hinX5 hown hK hP 0 rfl rfl 4 (by decide) hf40 (fun _ h9 => h9) rfl dX5_motion_68 ?_
        refine lv_iload hx hb dX5_motion_71 (lv_at hl 4 rfl) ?_
        refine tp_i (show (nI (f + 1) : Int32) = zI ((f : Int) + 1) from (nz (f + 1))) ?_
        refine cr_l (wc := [(sc, .inr (4, [.ref s1, .ref s2, .int (nI sm)])), (s1, .inl (cJ, 600, .inr (.inl EC))), (s2, .inl (cI, 30, .inl (nA RU)))]) (w1 := [(sc, .inr (4, [.ref s1, .ref s2, .int (nI sm)])), (s1, .inl (cJ, 600, .inr (.inl EC))), (s2, .inl (cI, 30, .inl (nA RU)))]) (ws2 := [(h0, .inr (5, [.ref ai, .ref pu, .ref pa, .ref ga, .ref sc, .ref hi, .ref gr, .int (nI me), .int (nI dp), .int (bI up), .int (nI mi), .int (nI ru), .long wp, .long wl])), (sc, .inr (4, [.ref s1, .ref s2, .int (nI sm)])), (s1, .inl (cJ, 600, .inr (.inl EC))), (s2, .inl (cI, 30, .inl (nA RU)))]) hP hD hS hA [1, 2, 3] rfl rfl rfl (va_runV (As := [.int (zI ((f : Int) + 1))]) (rest := []) ⟨hx, hb, hml, hown, hts⟩ (c_X4_differenceBy l D cI cJ cZ sc s1 s2 EC RU sm ((f : Int) + 1) (by omega) (by omega) (by omega) (by omega) H.size) (cwV 1 hts gX5_motion_X4_differenceBy rfl rfl rfl (by decide +kernel) ⟨Nat.le_of_ble_eq_true rfl, Nat.le_of_ble_eq_true rfl⟩) (pvV hT hP hD [1, 2, 3] rfl rfl 0 rfl rfl) rfl rfl hl.1 rfl (lv_room (Nat.le_of_ble_eq_true rfl)) dX5_motion_73 ⟨Nat.zero_le _, Nat.zero_le _⟩) (fun H locs hP hD hS => ?_)
        refine lv_lstore (lv' := [(7, .long (dfS EC sm ((f : Int) + 1) 20)), (1, .int (zI (-((f : Int) + 1)))), (2, .long (dfS EC sm (-((f : Int) + 1)) 20)), (5, .long (dfS EC sm (-((f : Int) + 1)) 20)), (0, .ref h0), (4, .int (nI (f + 1)))]) hx hb dX5_motion_76 hl (by decide) rfl (fun ls hl => ?_)
        refine lv_lload hx hb dX5_motion_78 (lv_at hl 0 rfl) ?_
        refine lv_lload_n hx hb dX5_motion_80 rfl (lv_at hl 2 rfl) ?_
        refine cl_ge (tgt := 91) hx hb dX5_motion_81 dX5_motion_82 (by decide) (fun clp => ?_) (fun clp => ?_)
        · have hlp : ¬ dfS EC sm ((f : Int) + 1) 20 < dfS EC sm (-((f : Int) + 1)) 20 := Int64.not_lt.mpr clp
          have hlo : (if dfS EC sm (-((f : Int) + 1)) 20 < moL (fun zz => dfS EC sm zz 20) f then dfS EC sm (-((f : Int) + 1)) 20 else moL (fun zz => dfS EC sm zz 20) f) = dfS EC sm (-((f : Int) + 1)) 20 := if_pos hln
          have hm1 : moL (fun zz => dfS EC sm zz 20) (f + 1) = dfS EC sm (-((f : Int) + 1)) 20 := by show (if dfS EC sm ((f : Int) + 1) 20 < (if dfS EC sm (-((f : Int) + 1)) 20 < moL (fun zz => dfS EC sm zz 20) f then dfS EC sm (-((f : Int) + 1)) 20 else moL (fun zz => dfS EC sm zz 20) f) then dfS EC sm ((f : Int) + 1) 20 else (if dfS EC sm (-((f : Int) + 1)) 20 < moL (fun zz => dfS EC sm zz 20) f then dfS EC sm (-((f : Int) + 1)) 20 else moL (fun zz => dfS EC sm zz 20) f)) = _; rw [hlo, if_neg hlp]
          have hm2 : moB (fun zz => dfS EC sm zz 20) (f + 1) = -((f : Int) + 1) := by show (if dfS EC sm ((f : Int) + 1) 20 < (if dfS EC sm (-((f : Int) + 1)) 20 < moL (fun zz => dfS EC sm zz 20) f then dfS EC sm (-((f : Int) + 1)) 20 else moL (fun zz => dfS EC sm zz 20) f) then (f : Int) + 1 else if dfS EC sm (-((f : Int) + 1)) 20 < moL (fun zz => dfS EC sm zz 20) f then -((f : Int) + 1) else moB (fun zz => dfS EC sm zz 20) f) = _; rw [hlo, if_neg hlp, if_pos hln]
          refine lv_iinc (v := nI (f + 1 + 1)) (lv' := [(4, .int (nI (f + 1 + 1))), (7, .long (dfS EC sm ((f : Int) + 1) 20)), (1, .int (zI (-((f : Int) + 1)))), (2, .long (dfS EC sm (-((f : Int) + 1)) 20)), (5, .long (dfS EC sm (-((f : Int) + 1)) 20)), (0, .ref h0)]) hx hb dX5_motion_91 hl (k := 5) rfl (n_inc (f + 1)) (by decide) rfl (fun ls hl => ?_)
          refine lv_goto (tgt := 35) hx hb dX5_motion_94 (by decide) ?_
          have hle : ([(0, .ref h0), (1, .int (zI (moB (fun zz => dfS EC sm zz 20) (f + 1)))), (2, .long (moL (fun zz => dfS EC sm zz 20) (f + 1))), (4, .int (nI ((f + 1) + 1)))] : List (Nat × Value)) = [(0, .ref h0), (1, .int (zI (-((f : Int) + 1)))), (2, .long (dfS EC sm (-((f : Int) + 1)) 20)), (4, .int (nI (f + 1 + 1)))] := (by rw [show moL (fun zz => dfS EC sm zz 20) (f + 1) = _ from hm1, show moB (fun zz => dfS EC sm zz 20) (f + 1) = _ from hm2])
          exact ih (f + 1) (by omega) H locs hP hD hS ls (by rw [hle]; exact lv_sub hl [5, 2, 3, 0] rfl)
        · have hlp : dfS EC sm ((f : Int) + 1) 20 < dfS EC sm (-((f : Int) + 1)) 20 := Int64.not_le.mp clp
          have hlo : (if dfS EC sm (-((f : Int) + 1)) 20 < moL (fun zz => dfS EC sm zz 20) f then dfS EC sm (-((f : Int) + 1)) 20 else moL (fun zz => dfS EC sm zz 20) f) = dfS EC sm (-((f : Int) + 1)) 20 := if_pos hln
          have hm1 : moL (fun zz => dfS EC sm zz 20) (f + 1) = dfS EC sm ((f : Int) + 1) 20 := by show (if dfS EC sm ((f : Int) + 1) 20 < (if dfS EC sm (-((f : Int) + 1)) 20 < moL (fun zz => dfS EC sm zz 20) f then dfS EC sm (-((f : Int) + 1)) 20 else moL (fun zz => dfS EC sm zz 20) f) then dfS EC sm ((f : Int) + 1) 20 else (if dfS EC sm (-((f : Int) + 1)) 20 < moL (fun zz => dfS EC sm zz 20) f then dfS EC sm (-((f : Int) + 1)) 20 else moL (fun zz => dfS EC sm zz 20) f)) = _; rw [hlo, if_pos hlp]
          have hm2 : moB (fun zz => dfS EC sm zz 20) (f + 1) = (f : Int) + 1 := by show (if dfS EC sm ((f : Int) + 1) 20 < (if dfS EC sm (-((f : Int) + 1)) 20 < moL (fun zz => dfS EC sm zz 20) f then dfS EC sm (-((f : Int) + 1)) 20 else moL (fun zz => dfS EC sm zz 20) f) then (f : Int) + 1 else if dfS EC sm (-((f : Int) + 1)) 20 < moL (fun zz => dfS EC sm zz 20) f then -((f : Int) + 1) else moB (fun zz => dfS EC sm zz 20) f) = _; rw [hlo, if_pos hlp]
          refine lv_lload hx hb dX5_motion_85 (lv_at hl 0 rfl) ?_
          refine lv_lstore_n (lv' := [(2, .long (dfS EC sm ((f : Int) + 1) 20)), (7, .long (dfS EC sm ((f : Int) + 1) 20)), (1, .int (zI (-((f : Int) + 1)))), (5, .long (dfS EC sm (-((f : Int) + 1)) 20)), (0, .ref h0), (4, .int (nI (f + 1)))]) hx hb dX5_motion_87 rfl hl (by decide) rfl (fun ls hl => ?_)
          refine lv_iload hx hb dX5_motion_88 (lv_at hl 5 rfl) ?_
          refine tp_i (show (nI (f + 1) : Int32) = zI ((f : Int) + 1) from (nz (f + 1))) ?_
          refine lv_istore_n (lv' := [(1, .int (zI ((f : Int) + 1))), (2, .long (dfS EC sm ((f : Int) + 1) 20)), (7, .long (dfS EC sm ((f : Int) + 1) 20)), (5, .long (dfS EC sm (-((f : Int) + 1)) 20)), (0, .ref h0), (4, .int (nI (f + 1)))]) hx hb dX5_motion_90 rfl hl (by decide) rfl (fun ls hl => ?_)
          refine lv_iinc (v := nI (f + 1 + 1)) (lv' := [(4, .int (nI (f + 1 + 1))), (1, .int (zI ((f : Int) + 1))), (2, .long (dfS EC sm ((f : Int) + 1) 20)), (7, .long (dfS EC sm ((f : Int) + 1) 20)), (5, .long (dfS EC sm (-((f : Int) + 1)) 20)), (0, .ref h0)]) hx hb dX5_motion_91 hl (k := 5) rfl (n_inc (f + 1)) (by decide) rfl (fun ls hl => ?_)
          refine lv_goto (tgt := 35) hx hb dX5_motion_94 (by decide) ?_
          have hle : ([(0, .ref h0), (1, .int (zI (moB (fun zz => dfS EC sm zz 20) (f + 1)))), (2, .long (moL (fun zz => dfS EC sm zz 20) (f + 1))), (4, .int (nI ((f + 1) + 1)))] : List (Nat × Value)) = [(0, .ref h0), (1, .int (zI ((f : Int) + 1))), (2, .long (dfS EC sm ((f : Int) + 1) 20)), (4, .int (nI (f + 1 + 1)))] := (by rw [show moL (fun zz => dfS EC sm zz 20) (f + 1) = _ from hm1, show moB (fun zz => dfS EC sm zz 20) (f + 1) = _ from hm2])
          exact ih (f + 1) (by omega) H locs hP hD hS ls (by rw [hle]; exact lv_sub hl [5, 1, 2, 0] rfl)
  have hle : ([(0, .ref h0), (1, .int (zI (moB (fun zz => dfS EC sm zz 20) 0))), (2, .long (moL (fun zz => dfS EC sm zz 20) 0)), (4, .int (nI (0 + 1)))] : List (Nat × Value)) = [(0, .ref h0), (1, .int (zI 0)), (2, .long (dfS EC sm 0 20)), (4, .int (nI 1))] := rfl
  exact lp35 3 0 (by omega) H locs hP hD hS ls (by rw [hle]; exact lv_sub hl [3, 2, 1, 0] rfl)
set_option maxHeartbeats 4000000 in
set_option maxRecDepth 100000 in
theorem c_X5_collected (l : Launch) (D : va_G) (cI cJ cZ : ClassId) (h0 : Nat) (ai : Nat) (pu : Nat) (pa : Nat) (ga : Nat) (sc : Nat) (hi : Nat) (gr : Nat) (me : Nat) (dp : Nat) (up : Bool) (mi : Nat) (ru : Nat) (wp : Int64) (wl : Int64) (g1 : Nat) (g2 : Nat) (g3 : Nat) (UP : Nat → Bool) (CL : Nat → Bool) (CO : Nat → Int64) (ki : Nat) (hki : ki < 20) (hup : UP ki = true) (sz : Nat) : Met l yX5_collected wsX5_collected ({ frames := 3, cells := 0, slots := 0, locals := 62 } : Room) (va_Pc [.ref h0, .int (nI ki)] (mPre D cI cJ cZ [(h0, .inr (5, [.ref ai, .ref pu, .ref pa, .ref ga, .ref sc, .ref hi, .ref gr, .int (nI me), .int (nI dp), .int (bI up), .int (nI mi), .int (nI ru), .long wp, .long wl])), (ga, .inr (1, [.ref g1, .ref g2, .ref g3])), (g1, .inl (cZ, 20, .inl (bA UP))), (g2, .inl (cZ, 20, .inl (bA CL))), (g3, .inl (cJ, 20, .inr (.inl CO)))] sz)) (Ql9 D (va_A [(h0, .inr (5, [.ref ai, .ref pu, .ref pa, .ref ga, .ref sc, .ref hi, .ref gr, .int (nI me), .int (nI dp), .int (bI up), .int (nI mi), .int (nI ru), .long wp, .long wl])), (ga, .inr (1, [.ref g1, .ref g2, .ref g3])), (g1, .inl (cZ, 20, .inl (bA UP))), (g2, .inl (cZ, 20, .inl (bA CL))), (g3, .inl (cJ, 20, .inr (.inl CO)))] sz) [(h0, .inr (5, [.ref ai, .ref pu, .ref pa, .ref ga, .ref sc, .ref hi, .ref gr, .int (nI me), .int (nI dp), .int (bI up), .int (nI mi), .int (nI ru), .long wp, .long wl])), (ga, .inr (1, [.ref g1, .ref g2, .ref g3])), (g1, .inl (cZ, 20, .inl (bA UP))), (g2, .inl (cZ, 20, .inl (bA CL))), (g3, .inl (cJ, 20, .inr (.inl CO)))] (CO ki)) 0 0 (va_A [(h0, .inr (5, [.ref ai, .ref pu, .ref pa, .ref ga, .ref sc, .ref hi, .ref gr, .int (nI me), .int (nI dp), .int (bI up), .int (nI mi), .int (nI ru), .long wp, .long wl])), (ga, .inr (1, [.ref g1, .ref g2, .ref g3])), (g1, .inl (cZ, 20, .inl (bA UP))), (g2, .inl (cZ, 20, .inl (bA CL))), (g3, .inl (cJ, 20, .inr (.inl CO)))] sz) := by
  refine Met.ofW (cc := cX5_collected) (maxL := 2) (ret := (some .long)) (by decide) rfl ?_
  intro p e s m args below meth c s₁ B hml hv
  obtain ⟨hargs, hsz, hP, hT, hD0⟩ := hv
  have hx := B.exec
  have hb := B.bytes
  have hr := B.returns
  have hts := atoms_spec (ws := wsX5_collected) B.pre
  have hown : s.vm.findClass RX5 = some m.cls := findClass_of_methodNamed B.named
  have hlocks := B.notSynchronized
  subst hsz
  have hK := hT.1
  have hD := hD0.self (sz := s.heap.size)
  generalize hAe : va_A [(h0, .inr (5, [.ref ai, .ref pu, .ref pa, .ref ga, .ref sc, .ref hi, .ref gr, .int (nI me), .int (nI dp), .int (bI up), .int (nI mi), .int (nI ru), .long wp, .long wl])), (ga, .inr (1, [.ref g1, .ref g2, .ref g3])), (g1, .inl (cZ, 20, .inl (bA UP))), (g2, .inl (cZ, 20, .inl (bA CL))), (g3, .inl (cJ, 20, .inr (.inl CO)))] s.heap.size = A at hD ⊢
  have hA : ∀ q : Nat, s.heap.size ≤ q → A q := fun q h => by rw [← hAe]; exact Or.inr h
  have hS : va_S A s.heap s.heap [] := va_S.rf
  obtain ⟨H, hHe⟩ : ∃ H : Heap, H = s.heap := ⟨_, rfl⟩
  have hS : va_S A s.heap H [] := by rw [hHe]; exact va_S.rf
  rw [← hHe] at hP
  suffices K0 : W p l e (headSpec wsX5_collected ({ frames := 3, cells := 0, slots := 0, locals := 62 } : Room)).room s m args below meth c H [] 0 0 (MQ below (Ql9 D A [(h0, .inr (5, [.ref ai, .ref pu, .ref pa, .ref ga, .ref sc, .ref hi, .ref gr, .int (nI me), .int (nI dp), .int (bI up), .int (nI mi), .int (nI ru), .long wp, .long wl])), (ga, .inr (1, [.ref g1, .ref g2, .ref g3])), (g1, .inl (cZ, 20, .inl (bA UP))), (g2, .inl (cZ, 20, .inl (bA CL))), (g3, .inl (cJ, 20, .inr (.inl CO)))] (CO ki)) args s 0 0 A) (entryFrame m args 2) by rw [hHe] at K0; exact K0
  refine W.eq (g2 := entryFrame m ([.ref h0, .int (nI ki)] : List Value).toArray 2) (by rw [hargs]) ?_
  have hl := lv_entry ([.ref h0, .int (nI ki)]) (n := 2) (Nat.le_of_ble_eq_true rfl)
  rw [lg_entry_eq]
  generalize (lg_sl ([.ref h0, .int (nI ki)]) ++ List.replicate (2 - (lg_sl ([.ref h0, .int (nI ki)])).length) Slot.unset).toArray = ls at hl ⊢
  have hl : lv_has ls 2 [(0, .ref h0), (1, .int (nI ki))] := hl
  generalize ([] : List Loc) = locs at hS ⊢
  have hinX5 : ∀ w ∈ wsX50, w ∈ wsX5_collected := by decide +kernel
  have hf33 := hts (.fieldLink RX5 33 "Brightband" "gauges" "LBrightband$Gauges;") (by decide +kernel)
  refine lv_iload_n hx hb dX5_collected_0 rfl (lv_at hl 1 rfl) ?_
  refine cr_v (wc := []) (w1 := []) (ws2 := [(h0, .inr (5, [.ref ai, .ref pu, .ref pa, .ref ga, .ref sc, .ref hi, .ref gr, .int (nI me), .int (nI dp), .int (bI up), .int (nI mi), .int (nI ru), .long wp, .long wl])), (ga, .inr (1, [.ref g1, .ref g2, .ref g3])), (g1, .inl (cZ, 20, .inl (bA UP))), (g2, .inl (cZ, 20, .inl (bA CL))), (g3, .inl (cJ, 20, .inr (.inl CO)))]) hP hD hS hA [] rfl rfl rfl (va_runS (As := [.int (nI ki)]) (rest := []) ⟨hx, hb, hml, hown, hts⟩ (c_X5_requireKilometre l D cI cJ cZ ki (by omega) H.size) (va_cwS 1 hts gX5_collected_X5_requireKilometre rfl rfl rfl (by decide +kernel) ⟨Nat.le_of_ble_eq_true rfl, Nat.le_of_ble_eq_true rfl⟩) (pvS hT hP hD [] rfl rfl) rfl rfl hl.1 rfl (lv_room (Nat.le_of_ble_eq_true rfl)) dX5_collected_1 ⟨Nat.zero_le _, Nat.zero_le _⟩) (fun H locs hP hD hS => ?_)
  refine lv_aload_n hx hb dX5_collected_4 rfl (lv_at hl 0 rfl) ?_
  refine lv_iload_n hx hb dX5_collected_5 rfl (lv_at hl 1 rfl) ?_
  refine cr_v (wc := [(h0, .inr (5, [.ref ai, .ref pu, .ref pa, .ref ga, .ref sc, .ref hi, .ref gr, .int (nI me), .int (nI dp), .int (bI up), .int (nI mi), .int (nI ru), .long wp, .long wl])), (ga, .inr (1, [.ref g1, .ref g2, .ref g3])), (g1, .inl (cZ, 20, .inl (bA UP))), (g2, .inl (cZ, 20, .inl (bA CL))), (g3, .inl (cJ, 20, .inr (.inl CO)))]) (w1 := [(h0, .inr (5, [.ref ai, .ref pu, .ref pa, .ref ga, .ref sc, .ref hi, .ref gr, .int (nI me), .int (nI dp), .int (bI up), .int (nI mi), .int (nI ru), .long wp, .long wl])), (ga, .inr (1, [.ref g1, .ref g2, .ref g3])), (g1, .inl (cZ, 20, .inl (bA UP))), (g2, .inl (cZ, 20, .inl (bA CL))), (g3, .inl (cJ, 20, .inr (.inl CO)))]) (ws2 := [(h0, .inr (5, [.ref ai, .ref pu, .ref pa, .ref ga, .ref sc, .ref hi, .ref gr, .int (nI me), .int (nI dp), .int (bI up), .int (nI mi), .int (nI ru), .long wp, .long wl])), (ga, .inr (1, [.ref g1, .ref g2, .ref g3])), (g1, .inl (cZ, 20, .inl (bA UP))), (g2, .inl (cZ, 20, .inl (bA CL))), (g3, .inl (cJ, 20, .inr (.inl CO)))]) hP hD hS hA [0, 1, 2, 3, 4] rfl rfl rfl (va_runV (As := [.int (nI ki)]) (rest := []) ⟨hx, hb, hml, hown, hts⟩ (c_X5_requireGauge l D cI cJ cZ h0 ai pu pa ga sc hi gr me dp up mi ru wp wl g1 g2 g3 UP CL CO ki (by omega) hup H.size) (cwV 1 hts gX5_collected_X5_requireGauge rfl rfl rfl (by decide +kernel) ⟨Nat.le_of_ble_eq_true rfl, Nat.le_of_ble_eq_true rfl⟩) (pvV hT hP hD [0, 1, 2, 3, 4] rfl rfl 0 rfl rfl) rfl rfl hl.1 rfl (lv_room (Nat.le_of_ble_eq_true rfl)) dX5_collected_6 ⟨Nat.zero_le _, Nat.zero_le _⟩) (fun H locs hP hD hS => ?_)
  refine lv_aload_n hx hb dX5_collected_9 rfl (lv_at hl 0 rfl) ?_
  refine va_get (D := D) (ci := 5) (v := .ref ga) (C := RX5) (T := TX5) (N := 14) hx hb hts hinX5 hown hK hP 0 rfl rfl 3 (by decide) hf33 (fun _ h9 => h9) rfl dX5_collected_10 ?_
  refine lv_iload_n hx hb dX5_collected_13 rfl (lv_at hl 1 rfl) ?_
  refine cr_l (wc := [(ga, .inr (1, [.ref g1, .ref g2, .ref g3])), (g1, .inl (cZ, 20, .inl (bA UP))), (g2, .inl (cZ, 20, .inl (bA CL))), (g3, .inl (cJ, 20, .inr (.inl CO)))]) (w1 := [(ga, .inr (1, [.ref g1, .ref g2, .ref g3])), (g1, .inl (cZ, 20, .inl (bA UP))), (g2, .inl (cZ, 20, .inl (bA CL))), (g3, .inl (cJ, 20, .inr (.inl CO)))]) (ws2 := [(h0, .inr (5, [.ref ai, .ref pu, .ref pa, .ref ga, .ref sc, .ref hi, .ref gr, .int (nI me), .int (nI dp), .int (bI up), .int (nI mi), .int (nI ru), .long wp, .long wl])), (ga, .inr (1, [.ref g1, .ref g2, .ref g3])), (g1, .inl (cZ, 20, .inl (bA UP))), (g2, .inl (cZ, 20, .inl (bA CL))), (g3, .inl (cJ, 20, .inr (.inl CO)))]) hP hD hS hA [1, 2, 3, 4] rfl rfl rfl (va_runV (As := [.int (nI ki)]) (rest := []) ⟨hx, hb, hml, hown, hts⟩ (c_X1_contentOf l D cI cJ cZ ga g1 g2 g3 UP CL CO ki (by omega) H.size) (cwV 1 hts gX5_collected_X1_contentOf rfl rfl rfl (by decide +kernel) ⟨Nat.le_of_ble_eq_true rfl, Nat.le_of_ble_eq_true rfl⟩) (pvV hT hP hD [1, 2, 3, 4] rfl rfl 0 rfl rfl) rfl rfl hl.1 rfl (lv_room (Nat.le_of_ble_eq_true rfl)) dX5_collected_14 ⟨Nat.zero_le _, Nat.zero_le _⟩) (fun H locs hP hD hS => ?_)
  exact fin_l hx hb hr hlocks hP hD hS (rfl) dX5_collected_17
set_option maxHeartbeats 4000000 in
set_option maxRecDepth 100000 in
theorem c_X5_ground (l : Launch) (D : va_G) (cI cJ cZ : ClassId) (h0 : Nat) (ai : Nat) (pu : Nat) (pa : Nat) (ga : Nat) (sc : Nat) (hi : Nat) (gr : Nat) (me : Nat) (dp : Nat) (up : Bool) (mi : Nat) (ru : Nat) (wp : Int64) (wl : Int64) (GR : Nat → Int64) (ki : Nat) (hki : ki < 20) (sz : Nat) : Met l yX5_ground wsX5_ground ({ frames := 1, cells := 0, slots := 0, locals := 20 } : Room) (va_Pc [.ref h0, .int (nI ki)] (mPre D cI cJ cZ [(h0, .inr (5, [.ref ai, .ref pu, .ref pa, .ref ga, .ref sc, .ref hi, .ref gr, .int (nI me), .int (nI dp), .int (bI up), .int (nI mi), .int (nI ru), .long wp, .long wl])), (gr, .inl (cJ, 20, .inr (.inl GR)))] sz)) (Ql9 D (va_A [(h0, .inr (5, [.ref ai, .ref pu, .ref pa, .ref ga, .ref sc, .ref hi, .ref gr, .int (nI me), .int (nI dp), .int (bI up), .int (nI mi), .int (nI ru), .long wp, .long wl])), (gr, .inl (cJ, 20, .inr (.inl GR)))] sz) [(h0, .inr (5, [.ref ai, .ref pu, .ref pa, .ref ga, .ref sc, .ref hi, .ref gr, .int (nI me), .int (nI dp), .int (bI up), .int (nI mi), .int (nI ru), .long wp, .long wl])), (gr, .inl (cJ, 20, .inr (.inl GR)))] (GR ki)) 0 0 (va_A [(h0, .inr (5, [.ref ai, .ref pu, .ref pa, .ref ga, .ref sc, .ref hi, .ref gr, .int (nI me), .int (nI dp), .int (bI up), .int (nI mi), .int (nI ru), .long wp, .long wl])), (gr, .inl (cJ, 20, .inr (.inl GR)))] sz) := by
  refine Met.ofW (cc := cX5_ground) (maxL := 2) (ret := (some .long)) (by decide) rfl ?_
  intro p e s m args below meth c s₁ B hml hv
  obtain ⟨hargs, hsz, hP, hT, hD0⟩ := hv
  have hx := B.exec
  have hb := B.bytes
  have hr := B.returns
  have hts := atoms_spec (ws := wsX5_ground) B.pre
  have hown : s.vm.findClass RX5 = some m.cls := findClass_of_methodNamed B.named
  have hlocks := B.notSynchronized
  subst hsz
  have hK := hT.1
  have hD := hD0.self (sz := s.heap.size)
  generalize hAe : va_A [(h0, .inr (5, [.ref ai, .ref pu, .ref pa, .ref ga, .ref sc, .ref hi, .ref gr, .int (nI me), .int (nI dp), .int (bI up), .int (nI mi), .int (nI ru), .long wp, .long wl])), (gr, .inl (cJ, 20, .inr (.inl GR)))] s.heap.size = A at hD ⊢
  have hA : ∀ q : Nat, s.heap.size ≤ q → A q := fun q h => by rw [← hAe]; exact Or.inr h
  have hS : va_S A s.heap s.heap [] := va_S.rf
  obtain ⟨H, hHe⟩ : ∃ H : Heap, H = s.heap := ⟨_, rfl⟩
  have hS : va_S A s.heap H [] := by rw [hHe]; exact va_S.rf
  rw [← hHe] at hP
  suffices K0 : W p l e (headSpec wsX5_ground ({ frames := 1, cells := 0, slots := 0, locals := 20 } : Room)).room s m args below meth c H [] 0 0 (MQ below (Ql9 D A [(h0, .inr (5, [.ref ai, .ref pu, .ref pa, .ref ga, .ref sc, .ref hi, .ref gr, .int (nI me), .int (nI dp), .int (bI up), .int (nI mi), .int (nI ru), .long wp, .long wl])), (gr, .inl (cJ, 20, .inr (.inl GR)))] (GR ki)) args s 0 0 A) (entryFrame m args 2) by rw [hHe] at K0; exact K0
  refine W.eq (g2 := entryFrame m ([.ref h0, .int (nI ki)] : List Value).toArray 2) (by rw [hargs]) ?_
  have hl := lv_entry ([.ref h0, .int (nI ki)]) (n := 2) (Nat.le_of_ble_eq_true rfl)
  rw [lg_entry_eq]
  generalize (lg_sl ([.ref h0, .int (nI ki)]) ++ List.replicate (2 - (lg_sl ([.ref h0, .int (nI ki)])).length) Slot.unset).toArray = ls at hl ⊢
  have hl : lv_has ls 2 [(0, .ref h0), (1, .int (nI ki))] := hl
  generalize ([] : List Loc) = locs at hS ⊢
  have hinX5 : ∀ w ∈ wsX50, w ∈ wsX5_ground := by decide +kernel
  have hf48 := hts (.fieldLink RX5 48 "Brightband" "grounds" "[J") (by decide +kernel)
  refine lv_iload_n hx hb dX5_ground_0 rfl (lv_at hl 1 rfl) ?_
  refine cr_v (wc := []) (w1 := []) (ws2 := [(h0, .inr (5, [.ref ai, .ref pu, .ref pa, .ref ga, .ref sc, .ref hi, .ref gr, .int (nI me), .int (nI dp), .int (bI up), .int (nI mi), .int (nI ru), .long wp, .long wl])), (gr, .inl (cJ, 20, .inr (.inl GR)))]) hP hD hS hA [] rfl rfl rfl (va_runS (As := [.int (nI ki)]) (rest := []) ⟨hx, hb, hml, hown, hts⟩ (c_X5_requireKilometre l D cI cJ cZ ki (by omega) H.size) (va_cwS 1 hts gX5_ground_X5_requireKilometre rfl rfl rfl (by decide +kernel) ⟨Nat.le_of_ble_eq_true rfl, Nat.le_of_ble_eq_true rfl⟩) (pvS hT hP hD [] rfl rfl) rfl rfl hl.1 rfl (lv_room (Nat.le_of_ble_eq_true rfl)) dX5_ground_1 ⟨Nat.zero_le _, Nat.zero_le _⟩) (fun H locs hP hD hS => ?_)
  refine lv_aload_n hx hb dX5_ground_4 rfl (lv_at hl 0 rfl) ?_
  refine va_get (D := D) (ci := 5) (v := .ref gr) (C := RX5) (T := TX5) (N := 14) hx hb hts hinX5 hown hK hP 0 rfl rfl 6 (by decide) hf48 (fun _ h9 => h9) rfl dX5_ground_5 ?_
  refine lv_iload_n hx hb dX5_ground_8 rfl (lv_at hl 1 rfl) ?_
  refine ald_L hx hb hK hP 1 1 rfl rfl ki rfl (by omega) (Nat.le_of_ble_eq_true rfl) dX5_ground_9 ?_
  exact fin_l hx hb hr hlocks hP hD hS (rfl) dX5_ground_10
set_option maxHeartbeats 4000000 in
set_option maxRecDepth 100000 in
theorem c_X5_waterOnGround (l : Launch) (D : va_G) (cI cJ cZ : ClassId) (h0 : Nat) (ai : Nat) (pu : Nat) (pa : Nat) (ga : Nat) (sc : Nat) (hi : Nat) (gr : Nat) (me : Nat) (dp : Nat) (up : Bool) (mi : Nat) (ru : Nat) (wp : Int64) (wl : Int64) (GR : Nat → Int64) (sz : Nat) : Met l yX5_waterOnGround wsX5_waterOnGround ({ frames := 0, cells := 0, slots := 0, locals := 0 } : Room) (va_Pc [.ref h0] (mPre D cI cJ cZ [(h0, .inr (5, [.ref ai, .ref pu, .ref pa, .ref ga, .ref sc, .ref hi, .ref gr, .int (nI me), .int (nI dp), .int (bI up), .int (nI mi), .int (nI ru), .long wp, .long wl])), (gr, .inl (cJ, 20, .inr (.inl GR)))] sz)) (Ql9 D (va_A [(h0, .inr (5, [.ref ai, .ref pu, .ref pa, .ref ga, .ref sc, .ref hi, .ref gr, .int (nI me), .int (nI dp), .int (bI up), .int (nI mi), .int (nI ru), .long wp, .long wl])), (gr, .inl (cJ, 20, .inr (.inl GR)))] sz) [(h0, .inr (5, [.ref ai, .ref pu, .ref pa, .ref ga, .ref sc, .ref hi, .ref gr, .int (nI me), .int (nI dp), .int (bI up), .int (nI mi), .int (nI ru), .long wp, .long wl])), (gr, .inl (cJ, 20, .inr (.inl GR)))] (gS GR 20)) 0 0 (va_A [(h0, .inr (5, [.ref ai, .ref pu, .ref pa, .ref ga, .ref sc, .ref hi, .ref gr, .int (nI me), .int (nI dp), .int (bI up), .int (nI mi), .int (nI ru), .long wp, .long wl])), (gr, .inl (cJ, 20, .inr (.inl GR)))] sz) := by
  refine Met.ofW (cc := cX5_waterOnGround) (maxL := 4) (ret := (some .long)) (by decide) rfl ?_
  intro p e s m args below meth c s₁ B hml hv
  obtain ⟨hargs, hsz, hP, hT, hD0⟩ := hv
  have hx := B.exec
  have hb := B.bytes
  have hr := B.returns
  have hts := atoms_spec (ws := wsX5_waterOnGround) B.pre
  have hown : s.vm.findClass RX5 = some m.cls := findClass_of_methodNamed B.named
  have hlocks := B.notSynchronized
  subst hsz
  have hK := hT.1
  have hD := hD0.self (sz := s.heap.size)
  generalize hAe : va_A [(h0, .inr (5, [.ref ai, .ref pu, .ref pa, .ref ga, .ref sc, .ref hi, .ref gr, .int (nI me), .int (nI dp), .int (bI up), .int (nI mi), .int (nI ru), .long wp, .long wl])), (gr, .inl (cJ, 20, .inr (.inl GR)))] s.heap.size = A at hD ⊢
  have hA : ∀ q : Nat, s.heap.size ≤ q → A q := fun q h => by rw [← hAe]; exact Or.inr h
  have hS : va_S A s.heap s.heap [] := va_S.rf
  obtain ⟨H, hHe⟩ : ∃ H : Heap, H = s.heap := ⟨_, rfl⟩
  have hS : va_S A s.heap H [] := by rw [hHe]; exact va_S.rf
  rw [← hHe] at hP
  suffices K0 : W p l e (headSpec wsX5_waterOnGround ({ frames := 0, cells := 0, slots := 0, locals := 0 } : Room)).room s m args below meth c H [] 0 0 (MQ below (Ql9 D A [(h0, .inr (5, [.ref ai, .ref pu, .ref pa, .ref ga, .ref sc, .ref hi, .ref gr, .int (nI me), .int (nI dp), .int (bI up), .int (nI mi), .int (nI ru), .long wp, .long wl])), (gr, .inl (cJ, 20, .inr (.inl GR)))] (gS GR 20)) args s 0 0 A) (entryFrame m args 4) by rw [hHe] at K0; exact K0
  refine W.eq (g2 := entryFrame m ([.ref h0] : List Value).toArray 4) (by rw [hargs]) ?_
  have hl := lv_entry ([.ref h0]) (n := 4) (Nat.le_of_ble_eq_true rfl)
  rw [lg_entry_eq]
  generalize (lg_sl ([.ref h0]) ++ List.replicate (4 - (lg_sl ([.ref h0])).length) Slot.unset).toArray = ls at hl ⊢
  have hl : lv_has ls 4 [(0, .ref h0)] := hl
  generalize ([] : List Loc) = locs at hS ⊢
  have hinX5 : ∀ w ∈ wsX50, w ∈ wsX5_waterOnGround := by decide +kernel
  have hf48 := hts (.fieldLink RX5 48 "Brightband" "grounds" "[J") (by decide +kernel)
  refine lv_lconst (v := 0) hx hb dX5_waterOnGround_0 (by decide) ?_
  refine lv_lstore_n (lv' := [(1, .long 0), (0, .ref h0)]) hx hb dX5_waterOnGround_1 rfl hl (by decide) rfl (fun ls hl => ?_)
  refine lv_iconst (v := nI 0) hx hb dX5_waterOnGround_2 (by decide) ?_
  refine lv_istore_n (lv' := [(3, .int (nI 0)), (1, .long 0), (0, .ref h0)]) hx hb dX5_waterOnGround_3 rfl hl (by decide) rfl (fun ls hl => ?_)
  have lp4 : ∀ (n i : Nat), i + n = 20 → ∀ (H : Heap) (locs : List Loc), va_P D vwCl [(h0, .inr (5, [.ref ai, .ref pu, .ref pa, .ref ga, .ref sc, .ref hi, .ref gr, .int (nI me), .int (nI dp), .int (bI up), .int (nI mi), .int (nI ru), .long wp, .long wl])), (gr, .inl (cJ, 20, .inr (.inl GR)))] H → va_D A [(h0, .inr (5, [.ref ai, .ref pu, .ref pa, .ref ga, .ref sc, .ref hi, .ref gr, .int (nI me), .int (nI dp), .int (bI up), .int (nI mi), .int (nI ru), .long wp, .long wl])), (gr, .inl (cJ, 20, .inr (.inl GR)))] → va_S A s.heap H locs → ∀ (ls : Array Slot), lv_has ls 4 [(0, .ref h0), (1, .long (gS GR i)), (3, .int (nI i))] → W p l e (headSpec wsX5_waterOnGround ({ frames := 0, cells := 0, slots := 0, locals := 0 } : Room)).room s m args below meth c H locs 0 0 (MQ below (Ql9 D A [(h0, .inr (5, [.ref ai, .ref pu, .ref pa, .ref ga, .ref sc, .ref hi, .ref gr, .int (nI me), .int (nI dp), .int (bI up), .int (nI mi), .int (nI ru), .long wp, .long wl])), (gr, .inl (cJ, 20, .inr (.inl GR)))] (gS GR 20)) args s 0 0 A) (F0 m 4 ls []) := by
    intro n
    induction n with
    | zero =>
      intro i hcnti H locs hP hD hS ls hl
      obtain rfl : 20 = i := by omega
      refine lv_iload_n hx hb dX5_waterOnGround_4 rfl (lv_at hl 2 rfl) ?_
      refine lv_bipush (v := nI 20) hx hb dX5_waterOnGround_5 (by decide) ?_
      refine ci_ge (tgt := 25) hx hb dX5_waterOnGround_7 (by decide) (nT (by omega)) (nT (by omega)) (fun c_7 => ?_) (fun c_7 => by omega)
      refine lv_lload_n hx hb dX5_waterOnGround_25 rfl (lv_at hl 1 rfl) ?_
      exact fin_l hx hb hr hlocks hP hD hS (rfl) dX5_waterOnGround_26
    | succ n ih =>
      intro i hcnti H locs hP hD hS ls hl
      have hlti : i < 20 := by omega
      refine lv_iload_n hx hb dX5_waterOnGround_4 rfl (lv_at hl 2 rfl) ?_
      refine lv_bipush (v := nI 20) hx hb dX5_waterOnGround_5 (by decide) ?_
      refine ci_ge (tgt := 25) hx hb dX5_waterOnGround_7 (by decide) (nT (by omega)) (nT (by omega)) (fun c_7 => by omega) (fun c_7 => ?_)
      refine lv_lload_n hx hb dX5_waterOnGround_10 rfl (lv_at hl 1 rfl) ?_
      refine lv_aload_n hx hb dX5_waterOnGround_11 rfl (lv_at hl 0 rfl) ?_
      refine va_get (D := D) (ci := 5) (v := .ref gr) (C := RX5) (T := TX5) (N := 14) hx hb hts hinX5 hown hK hP 0 rfl rfl 6 (by decide) hf48 (fun _ h9 => h9) rfl dX5_waterOnGround_12 ?_
      refine lv_iload_n hx hb dX5_waterOnGround_15 rfl (lv_at hl 2 rfl) ?_
      refine ald_L hx hb hK hP 1 1 rfl rfl i rfl (by omega) (Nat.le_of_ble_eq_true rfl) dX5_waterOnGround_16 ?_
      refine lv_ladd hx hb dX5_waterOnGround_17 ?_
      refine lv_lstore_n (lv' := [(1, .long ((gS GR i) + (GR i))), (0, .ref h0), (3, .int (nI i))]) hx hb dX5_waterOnGround_18 rfl hl (by decide) rfl (fun ls hl => ?_)
      refine lv_iinc (v := nI (i + 1)) (lv' := [(3, .int (nI (i + 1))), (1, .long ((gS GR i) + (GR i))), (0, .ref h0)]) hx hb dX5_waterOnGround_19 hl (k := 2) rfl (n_inc i) (by decide) rfl (fun ls hl => ?_)
      refine lv_goto (tgt := 4) hx hb dX5_waterOnGround_22 (by decide) ?_
      have hle : ([(0, .ref h0), (1, .long (gS GR (i + 1))), (3, .int (nI (i + 1)))] : List (Nat × Value)) = [(0, .ref h0), (1, .long ((gS GR i) + (GR i))), (3, .int (nI (i + 1)))] := rfl
      exact ih (i + 1) (by omega) H locs hP hD hS ls (by rw [hle]; exact lv_sub hl [2, 1, 0] rfl)
  have hle : ([(0, .ref h0), (1, .long (gS GR 0)), (3, .int (nI 0))] : List (Nat × Value)) = [(0, .ref h0), (1, .long 0), (3, .int (nI 0))] := rfl
  exact lp4 20 0 (by omega) H locs hP hD hS ls (by rw [hle]; exact lv_sub hl [2, 1, 0] rfl)
set_option maxHeartbeats 4000000 in
set_option maxRecDepth 100000 in
theorem c_X5_water_0 (l : Launch) (D : va_G) (cI cJ cZ : ClassId) (h0 : Nat) (ai : Nat) (pu : Nat) (pa : Nat) (ga : Nat) (sc : Nat) (hi : Nat) (gr : Nat) (me : Nat) (dp : Nat) (up : Bool) (mi : Nat) (ru : Nat) (wp : Int64) (wl : Int64) (sz : Nat) : Met l yX5_water wsX5_water ({ frames := 1, cells := 0, slots := 0, locals := 22 } : Room) (va_Pc [.ref h0, .int (nI 0)] (mPre D cI cJ cZ [(h0, .inr (5, [.ref ai, .ref pu, .ref pa, .ref ga, .ref sc, .ref hi, .ref gr, .int (nI me), .int (nI dp), .int (bI up), .int (nI mi), .int (nI ru), .long wp, .long wl]))] sz)) (Ql9 D (va_A [(h0, .inr (5, [.ref ai, .ref pu, .ref pa, .ref ga, .ref sc, .ref hi, .ref gr, .int (nI me), .int (nI dp), .int (bI up), .int (nI mi), .int (nI ru), .long wp, .long wl]))] sz) [(h0, .inr (5, [.ref ai, .ref pu, .ref pa, .ref ga, .ref sc, .ref hi, .ref gr, .int (nI me), .int (nI dp), .int (bI up), .int (nI mi), .int (nI ru), .long wp, .long wl]))] (wp)) 0 0 (va_A [(h0, .inr (5, [.ref ai, .ref pu, .ref pa, .ref ga, .ref sc, .ref hi, .ref gr, .int (nI me), .int (nI dp), .int (bI up), .int (nI mi), .int (nI ru), .long wp, .long wl]))] sz) := by
  refine Met.ofW (cc := cX5_water) (maxL := 2) (ret := (some .long)) (by decide) rfl ?_
  intro p e s m args below meth c s₁ B hml hv
  obtain ⟨hargs, hsz, hP, hT, hD0⟩ := hv
  have hx := B.exec
  have hb := B.bytes
  have hr := B.returns
  have hts := atoms_spec (ws := wsX5_water) B.pre
  have hown : s.vm.findClass RX5 = some m.cls := findClass_of_methodNamed B.named
  have hlocks := B.notSynchronized
  subst hsz
  have hK := hT.1
  have hD := hD0.self (sz := s.heap.size)
  generalize hAe : va_A [(h0, .inr (5, [.ref ai, .ref pu, .ref pa, .ref ga, .ref sc, .ref hi, .ref gr, .int (nI me), .int (nI dp), .int (bI up), .int (nI mi), .int (nI ru), .long wp, .long wl]))] s.heap.size = A at hD ⊢
  have hA : ∀ q : Nat, s.heap.size ≤ q → A q := fun q h => by rw [← hAe]; exact Or.inr h
  have hS : va_S A s.heap s.heap [] := va_S.rf
  obtain ⟨H, hHe⟩ : ∃ H : Heap, H = s.heap := ⟨_, rfl⟩
  have hS : va_S A s.heap H [] := by rw [hHe]; exact va_S.rf
  rw [← hHe] at hP
  suffices K0 : W p l e (headSpec wsX5_water ({ frames := 1, cells := 0, slots := 0, locals := 22 } : Room)).room s m args below meth c H [] 0 0 (MQ below (Ql9 D A [(h0, .inr (5, [.ref ai, .ref pu, .ref pa, .ref ga, .ref sc, .ref hi, .ref gr, .int (nI me), .int (nI dp), .int (bI up), .int (nI mi), .int (nI ru), .long wp, .long wl]))] (wp)) args s 0 0 A) (entryFrame m args 2) by rw [hHe] at K0; exact K0
  refine W.eq (g2 := entryFrame m ([.ref h0, .int (nI 0)] : List Value).toArray 2) (by rw [hargs]) ?_
  have hl := lv_entry ([.ref h0, .int (nI 0)]) (n := 2) (Nat.le_of_ble_eq_true rfl)
  rw [lg_entry_eq]
  generalize (lg_sl ([.ref h0, .int (nI 0)]) ++ List.replicate (2 - (lg_sl ([.ref h0, .int (nI 0)])).length) Slot.unset).toArray = ls at hl ⊢
  have hl : lv_has ls 2 [(0, .ref h0), (1, .int (nI 0))] := hl
  generalize ([] : List Loc) = locs at hS ⊢
  have hinX5 : ∀ w ∈ wsX50, w ∈ wsX5_water := by decide +kernel
  have hf69 := hts (.fieldLink RX5 69 "Brightband" "waterPut" "J") (by decide +kernel)
  refine lv_iload_n hx hb dX5_water_0 rfl (lv_at hl 1 rfl) ?_
  refine lv_iconst (v := nI 0) hx hb dX5_water_1 (by decide) ?_
  refine lv_iconst (v := nI 3) hx hb dX5_water_2 (by decide) ?_
  refine cr_v (wc := []) (w1 := []) (ws2 := [(h0, .inr (5, [.ref ai, .ref pu, .ref pa, .ref ga, .ref sc, .ref hi, .ref gr, .int (nI me), .int (nI dp), .int (bI up), .int (nI mi), .int (nI ru), .long wp, .long wl]))]) hP hD hS hA [] rfl rfl rfl (va_runS (As := [.int (nI 0), .int (nI 0), .int (nI 3)]) (rest := []) ⟨hx, hb, hml, hown, hts⟩ (c_X5_requireRange l D cI cJ cZ 0 0 3 (by omega) (by omega) (by omega) H.size) (va_cwS 3 hts gX5_water_X5_requireRange rfl rfl rfl (by decide +kernel) ⟨Nat.le_of_ble_eq_true rfl, Nat.le_of_ble_eq_true rfl⟩) (pvS hT hP hD [] rfl rfl) rfl rfl hl.1 rfl (lv_room (Nat.le_of_ble_eq_true rfl)) dX5_water_3 ⟨Nat.zero_le _, Nat.zero_le _⟩) (fun H locs hP hD hS => ?_)
  refine lv_iload_n hx hb dX5_water_6 rfl (lv_at hl 1 rfl) ?_
  refine lv_tableIn (tgt := 32) hx hb dX5_water_7 (by decide) (by decide) rfl (by decide) ?_
  refine lv_aload_n hx hb dX5_water_32 rfl (lv_at hl 0 rfl) ?_
  refine va_get (D := D) (ci := 5) (v := .long wp) (C := RX5) (T := TX5) (N := 14) hx hb hts hinX5 hown hK hP 0 rfl rfl 12 (by decide) hf69 (fun _ h9 => h9) rfl dX5_water_33 ?_
  exact fin_l hx hb hr hlocks hP hD hS (rfl) dX5_water_36
set_option maxHeartbeats 4000000 in
set_option maxRecDepth 100000 in
theorem c_X5_water_1 (l : Launch) (D : va_G) (cI cJ cZ : ClassId) (h0 : Nat) (ai : Nat) (pu : Nat) (pa : Nat) (ga : Nat) (sc : Nat) (hi : Nat) (gr : Nat) (me : Nat) (dp : Nat) (up : Bool) (mi : Nat) (ru : Nat) (wp : Int64) (wl : Int64) (a1 : Nat) (C : Nat → Nat) (sz : Nat) : Met l yX5_water wsX5_water ({ frames := 3, cells := 0, slots := 0, locals := 71 } : Room) (va_Pc [.ref h0, .int (nI 1)] (mPre D cI cJ cZ [(h0, .inr (5, [.ref ai, .ref pu, .ref pa, .ref ga, .ref sc, .ref hi, .ref gr, .int (nI me), .int (nI dp), .int (bI up), .int (nI mi), .int (nI ru), .long wp, .long wl])), (ai, .inr (0, [.ref a1])), (a1, .inl (cI, 600, .inl (nA C)))] sz)) (Ql9 D (va_A [(h0, .inr (5, [.ref ai, .ref pu, .ref pa, .ref ga, .ref sc, .ref hi, .ref gr, .int (nI me), .int (nI dp), .int (bI up), .int (nI mi), .int (nI ru), .long wp, .long wl])), (ai, .inr (0, [.ref a1])), (a1, .inl (cI, 600, .inl (nA C)))] sz) [(h0, .inr (5, [.ref ai, .ref pu, .ref pa, .ref ga, .ref sc, .ref hi, .ref gr, .int (nI me), .int (nI dp), .int (bI up), .int (nI mi), .int (nI ru), .long wp, .long wl])), (ai, .inr (0, [.ref a1])), (a1, .inl (cI, 600, .inl (nA C)))] (AWs C 600)) 0 0 (va_A [(h0, .inr (5, [.ref ai, .ref pu, .ref pa, .ref ga, .ref sc, .ref hi, .ref gr, .int (nI me), .int (nI dp), .int (bI up), .int (nI mi), .int (nI ru), .long wp, .long wl])), (ai, .inr (0, [.ref a1])), (a1, .inl (cI, 600, .inl (nA C)))] sz) := by
  refine Met.ofW (cc := cX5_water) (maxL := 2) (ret := (some .long)) (by decide) rfl ?_
  intro p e s m args below meth c s₁ B hml hv
  obtain ⟨hargs, hsz, hP, hT, hD0⟩ := hv
  have hx := B.exec
  have hb := B.bytes
  have hr := B.returns
  have hts := atoms_spec (ws := wsX5_water) B.pre
  have hown : s.vm.findClass RX5 = some m.cls := findClass_of_methodNamed B.named
  have hlocks := B.notSynchronized
  subst hsz
  have hK := hT.1
  have hD := hD0.self (sz := s.heap.size)
  generalize hAe : va_A [(h0, .inr (5, [.ref ai, .ref pu, .ref pa, .ref ga, .ref sc, .ref hi, .ref gr, .int (nI me), .int (nI dp), .int (bI up), .int (nI mi), .int (nI ru), .long wp, .long wl])), (ai, .inr (0, [.ref a1])), (a1, .inl (cI, 600, .inl (nA C)))] s.heap.size = A at hD ⊢
  have hA : ∀ q : Nat, s.heap.size ≤ q → A q := fun q h => by rw [← hAe]; exact Or.inr h
  have hS : va_S A s.heap s.heap [] := va_S.rf
  obtain ⟨H, hHe⟩ : ∃ H : Heap, H = s.heap := ⟨_, rfl⟩
  have hS : va_S A s.heap H [] := by rw [hHe]; exact va_S.rf
  rw [← hHe] at hP
  suffices K0 : W p l e (headSpec wsX5_water ({ frames := 3, cells := 0, slots := 0, locals := 71 } : Room)).room s m args below meth c H [] 0 0 (MQ below (Ql9 D A [(h0, .inr (5, [.ref ai, .ref pu, .ref pa, .ref ga, .ref sc, .ref hi, .ref gr, .int (nI me), .int (nI dp), .int (bI up), .int (nI mi), .int (nI ru), .long wp, .long wl])), (ai, .inr (0, [.ref a1])), (a1, .inl (cI, 600, .inl (nA C)))] (AWs C 600)) args s 0 0 A) (entryFrame m args 2) by rw [hHe] at K0; exact K0
  refine W.eq (g2 := entryFrame m ([.ref h0, .int (nI 1)] : List Value).toArray 2) (by rw [hargs]) ?_
  have hl := lv_entry ([.ref h0, .int (nI 1)]) (n := 2) (Nat.le_of_ble_eq_true rfl)
  rw [lg_entry_eq]
  generalize (lg_sl ([.ref h0, .int (nI 1)]) ++ List.replicate (2 - (lg_sl ([.ref h0, .int (nI 1)])).length) Slot.unset).toArray = ls at hl ⊢
  have hl : lv_has ls 2 [(0, .ref h0), (1, .int (nI 1))] := hl
  generalize ([] : List Loc) = locs at hS ⊢
  have hinX5 : ∀ w ∈ wsX50, w ∈ wsX5_water := by decide +kernel
  have hf12 := hts (.fieldLink RX5 12 "Brightband" "air" "LBrightband$Air;") (by decide +kernel)
  refine lv_iload_n hx hb dX5_water_0 rfl (lv_at hl 1 rfl) ?_
  refine lv_iconst (v := nI 0) hx hb dX5_water_1 (by decide) ?_
  refine lv_iconst (v := nI 3) hx hb dX5_water_2 (by decide) ?_
  refine cr_v (wc := []) (w1 := []) (ws2 := [(h0, .inr (5, [.ref ai, .ref pu, .ref pa, .ref ga, .ref sc, .ref hi, .ref gr, .int (nI me), .int (nI dp), .int (bI up), .int (nI mi), .int (nI ru), .long wp, .long wl])), (ai, .inr (0, [.ref a1])), (a1, .inl (cI, 600, .inl (nA C)))]) hP hD hS hA [] rfl rfl rfl (va_runS (As := [.int (nI 1), .int (nI 0), .int (nI 3)]) (rest := []) ⟨hx, hb, hml, hown, hts⟩ (c_X5_requireRange l D cI cJ cZ 1 0 3 (by omega) (by omega) (by omega) H.size) (va_cwS 3 hts gX5_water_X5_requireRange rfl rfl rfl (by decide +kernel) ⟨Nat.le_of_ble_eq_true rfl, Nat.le_of_ble_eq_true rfl⟩) (pvS hT hP hD [] rfl rfl) rfl rfl hl.1 rfl (lv_room (Nat.le_of_ble_eq_true rfl)) dX5_water_3 ⟨Nat.zero_le _, Nat.zero_le _⟩) (fun H locs hP hD hS => ?_)
  refine lv_iload_n hx hb dX5_water_6 rfl (lv_at hl 1 rfl) ?_
  refine lv_tableIn (tgt := 37) hx hb dX5_water_7 (by decide) (by decide) rfl (by decide) ?_
  refine lv_aload_n hx hb dX5_water_37 rfl (lv_at hl 0 rfl) ?_
  refine va_get (D := D) (ci := 5) (v := .ref ai) (C := RX5) (T := TX5) (N := 14) hx hb hts hinX5 hown hK hP 0 rfl rfl 0 (by decide) hf12 (fun _ h9 => h9) rfl dX5_water_38 ?_
  refine cr_l (wc := [(ai, .inr (0, [.ref a1])), (a1, .inl (cI, 600, .inl (nA C)))]) (w1 := [(ai, .inr (0, [.ref a1])), (a1, .inl (cI, 600, .inl (nA C)))]) (ws2 := [(h0, .inr (5, [.ref ai, .ref pu, .ref pa, .ref ga, .ref sc, .ref hi, .ref gr, .int (nI me), .int (nI dp), .int (bI up), .int (nI mi), .int (nI ru), .long wp, .long wl])), (ai, .inr (0, [.ref a1])), (a1, .inl (cI, 600, .inl (nA C)))]) hP hD hS hA [1, 2] rfl rfl rfl (va_runV (As := []) (rest := []) ⟨hx, hb, hml, hown, hts⟩ (c_X0_allWater l D cI cJ cZ ai a1 C H.size) (cwV 0 hts gX5_water_X0_allWater rfl rfl rfl (by decide +kernel) ⟨Nat.le_of_ble_eq_true rfl, Nat.le_of_ble_eq_true rfl⟩) (pvV hT hP hD [1, 2] rfl rfl 0 rfl rfl) rfl rfl hl.1 rfl (lv_room (Nat.le_of_ble_eq_true rfl)) dX5_water_41 ⟨Nat.zero_le _, Nat.zero_le _⟩) (fun H locs hP hD hS => ?_)
  exact fin_l hx hb hr hlocks hP hD hS (rfl) dX5_water_44
set_option maxHeartbeats 4000000 in
set_option maxRecDepth 100000 in
theorem c_X5_water_2 (l : Launch) (D : va_G) (cI cJ cZ : ClassId) (h0 : Nat) (ai : Nat) (pu : Nat) (pa : Nat) (ga : Nat) (sc : Nat) (hi : Nat) (gr : Nat) (me : Nat) (dp : Nat) (up : Bool) (mi : Nat) (ru : Nat) (wp : Int64) (wl : Int64) (GR : Nat → Int64) (sz : Nat) : Met l yX5_water wsX5_water ({ frames := 1, cells := 0, slots := 0, locals := 23 } : Room) (va_Pc [.ref h0, .int (nI 2)] (mPre D cI cJ cZ [(h0, .inr (5, [.ref ai, .ref pu, .ref pa, .ref ga, .ref sc, .ref hi, .ref gr, .int (nI me), .int (nI dp), .int (bI up), .int (nI mi), .int (nI ru), .long wp, .long wl])), (gr, .inl (cJ, 20, .inr (.inl GR)))] sz)) (Ql9 D (va_A [(h0, .inr (5, [.ref ai, .ref pu, .ref pa, .ref ga, .ref sc, .ref hi, .ref gr, .int (nI me), .int (nI dp), .int (bI up), .int (nI mi), .int (nI ru), .long wp, .long wl])), (gr, .inl (cJ, 20, .inr (.inl GR)))] sz) [(h0, .inr (5, [.ref ai, .ref pu, .ref pa, .ref ga, .ref sc, .ref hi, .ref gr, .int (nI me), .int (nI dp), .int (bI up), .int (nI mi), .int (nI ru), .long wp, .long wl])), (gr, .inl (cJ, 20, .inr (.inl GR)))] (gS GR 20)) 0 0 (va_A [(h0, .inr (5, [.ref ai, .ref pu, .ref pa, .ref ga, .ref sc, .ref hi, .ref gr, .int (nI me), .int (nI dp), .int (bI up), .int (nI mi), .int (nI ru), .long wp, .long wl])), (gr, .inl (cJ, 20, .inr (.inl GR)))] sz) := by
  refine Met.ofW (cc := cX5_water) (maxL := 2) (ret := (some .long)) (by decide) rfl ?_
  intro p e s m args below meth c s₁ B hml hv
  obtain ⟨hargs, hsz, hP, hT, hD0⟩ := hv
  have hx := B.exec
  have hb := B.bytes
  have hr := B.returns
  have hts := atoms_spec (ws := wsX5_water) B.pre
  have hown : s.vm.findClass RX5 = some m.cls := findClass_of_methodNamed B.named
  have hlocks := B.notSynchronized
  subst hsz
  have hK := hT.1
  have hD := hD0.self (sz := s.heap.size)
  generalize hAe : va_A [(h0, .inr (5, [.ref ai, .ref pu, .ref pa, .ref ga, .ref sc, .ref hi, .ref gr, .int (nI me), .int (nI dp), .int (bI up), .int (nI mi), .int (nI ru), .long wp, .long wl])), (gr, .inl (cJ, 20, .inr (.inl GR)))] s.heap.size = A at hD ⊢
  have hA : ∀ q : Nat, s.heap.size ≤ q → A q := fun q h => by rw [← hAe]; exact Or.inr h
  have hS : va_S A s.heap s.heap [] := va_S.rf
  obtain ⟨H, hHe⟩ : ∃ H : Heap, H = s.heap := ⟨_, rfl⟩
  have hS : va_S A s.heap H [] := by rw [hHe]; exact va_S.rf
  rw [← hHe] at hP
  suffices K0 : W p l e (headSpec wsX5_water ({ frames := 1, cells := 0, slots := 0, locals := 23 } : Room)).room s m args below meth c H [] 0 0 (MQ below (Ql9 D A [(h0, .inr (5, [.ref ai, .ref pu, .ref pa, .ref ga, .ref sc, .ref hi, .ref gr, .int (nI me), .int (nI dp), .int (bI up), .int (nI mi), .int (nI ru), .long wp, .long wl])), (gr, .inl (cJ, 20, .inr (.inl GR)))] (gS GR 20)) args s 0 0 A) (entryFrame m args 2) by rw [hHe] at K0; exact K0
  refine W.eq (g2 := entryFrame m ([.ref h0, .int (nI 2)] : List Value).toArray 2) (by rw [hargs]) ?_
  have hl := lv_entry ([.ref h0, .int (nI 2)]) (n := 2) (Nat.le_of_ble_eq_true rfl)
  rw [lg_entry_eq]
  generalize (lg_sl ([.ref h0, .int (nI 2)]) ++ List.replicate (2 - (lg_sl ([.ref h0, .int (nI 2)])).length) Slot.unset).toArray = ls at hl ⊢
  have hl : lv_has ls 2 [(0, .ref h0), (1, .int (nI 2))] := hl
  generalize ([] : List Loc) = locs at hS ⊢
  refine lv_iload_n hx hb dX5_water_0 rfl (lv_at hl 1 rfl) ?_
  refine lv_iconst (v := nI 0) hx hb dX5_water_1 (by decide) ?_
  refine lv_iconst (v := nI 3) hx hb dX5_water_2 (by decide) ?_
  refine cr_v (wc := []) (w1 := []) (ws2 := [(h0, .inr (5, [.ref ai, .ref pu, .ref pa, .ref ga, .ref sc, .ref hi, .ref gr, .int (nI me), .int (nI dp), .int (bI up), .int (nI mi), .int (nI ru), .long wp, .long wl])), (gr, .inl (cJ, 20, .inr (.inl GR)))]) hP hD hS hA [] rfl rfl rfl (va_runS (As := [.int (nI 2), .int (nI 0), .int (nI 3)]) (rest := []) ⟨hx, hb, hml, hown, hts⟩ (c_X5_requireRange l D cI cJ cZ 2 0 3 (by omega) (by omega) (by omega) H.size) (va_cwS 3 hts gX5_water_X5_requireRange rfl rfl rfl (by decide +kernel) ⟨Nat.le_of_ble_eq_true rfl, Nat.le_of_ble_eq_true rfl⟩) (pvS hT hP hD [] rfl rfl) rfl rfl hl.1 rfl (lv_room (Nat.le_of_ble_eq_true rfl)) dX5_water_3 ⟨Nat.zero_le _, Nat.zero_le _⟩) (fun H locs hP hD hS => ?_)
  refine lv_iload_n hx hb dX5_water_6 rfl (lv_at hl 1 rfl) ?_
  refine lv_tableIn (tgt := 45) hx hb dX5_water_7 (by decide) (by decide) rfl (by decide) ?_
  refine lv_aload_n hx hb dX5_water_45 rfl (lv_at hl 0 rfl) ?_
  refine cr_l (wc := [(h0, .inr (5, [.ref ai, .ref pu, .ref pa, .ref ga, .ref sc, .ref hi, .ref gr, .int (nI me), .int (nI dp), .int (bI up), .int (nI mi), .int (nI ru), .long wp, .long wl])), (gr, .inl (cJ, 20, .inr (.inl GR)))]) (w1 := [(h0, .inr (5, [.ref ai, .ref pu, .ref pa, .ref ga, .ref sc, .ref hi, .ref gr, .int (nI me), .int (nI dp), .int (bI up), .int (nI mi), .int (nI ru), .long wp, .long wl])), (gr, .inl (cJ, 20, .inr (.inl GR)))]) (ws2 := [(h0, .inr (5, [.ref ai, .ref pu, .ref pa, .ref ga, .ref sc, .ref hi, .ref gr, .int (nI me), .int (nI dp), .int (bI up), .int (nI mi), .int (nI ru), .long wp, .long wl])), (gr, .inl (cJ, 20, .inr (.inl GR)))]) hP hD hS hA [0, 1] rfl rfl rfl (va_runV (As := []) (rest := []) ⟨hx, hb, hml, hown, hts⟩ (c_X5_waterOnGround l D cI cJ cZ h0 ai pu pa ga sc hi gr me dp up mi ru wp wl GR H.size) (cwV 0 hts gX5_water_X5_waterOnGround rfl rfl rfl (by decide +kernel) ⟨Nat.le_of_ble_eq_true rfl, Nat.le_of_ble_eq_true rfl⟩) (pvV hT hP hD [0, 1] rfl rfl 0 rfl rfl) rfl rfl hl.1 rfl (lv_room (Nat.le_of_ble_eq_true rfl)) dX5_water_46 ⟨Nat.zero_le _, Nat.zero_le _⟩) (fun H locs hP hD hS => ?_)
  exact fin_l hx hb hr hlocks hP hD hS (rfl) dX5_water_49
set_option maxHeartbeats 4000000 in
set_option maxRecDepth 100000 in
theorem c_X5_water_3 (l : Launch) (D : va_G) (cI cJ cZ : ClassId) (h0 : Nat) (ai : Nat) (pu : Nat) (pa : Nat) (ga : Nat) (sc : Nat) (hi : Nat) (gr : Nat) (me : Nat) (dp : Nat) (up : Bool) (mi : Nat) (ru : Nat) (wp : Int64) (wl : Int64) (sz : Nat) : Met l yX5_water wsX5_water ({ frames := 1, cells := 0, slots := 0, locals := 22 } : Room) (va_Pc [.ref h0, .int (nI 3)] (mPre D cI cJ cZ [(h0, .inr (5, [.ref ai, .ref pu, .ref pa, .ref ga, .ref sc, .ref hi, .ref gr, .int (nI me), .int (nI dp), .int (bI up), .int (nI mi), .int (nI ru), .long wp, .long wl]))] sz)) (Ql9 D (va_A [(h0, .inr (5, [.ref ai, .ref pu, .ref pa, .ref ga, .ref sc, .ref hi, .ref gr, .int (nI me), .int (nI dp), .int (bI up), .int (nI mi), .int (nI ru), .long wp, .long wl]))] sz) [(h0, .inr (5, [.ref ai, .ref pu, .ref pa, .ref ga, .ref sc, .ref hi, .ref gr, .int (nI me), .int (nI dp), .int (bI up), .int (nI mi), .int (nI ru), .long wp, .long wl]))] (wl)) 0 0 (va_A [(h0, .inr (5, [.ref ai, .ref pu, .ref pa, .ref ga, .ref sc, .ref hi, .ref gr, .int (nI me), .int (nI dp), .int (bI up), .int (nI mi), .int (nI ru), .long wp, .long wl]))] sz) := by
  refine Met.ofW (cc := cX5_water) (maxL := 2) (ret := (some .long)) (by decide) rfl ?_
  intro p e s m args below meth c s₁ B hml hv
  obtain ⟨hargs, hsz, hP, hT, hD0⟩ := hv
  have hx := B.exec
  have hb := B.bytes
  have hr := B.returns
  have hts := atoms_spec (ws := wsX5_water) B.pre
  have hown : s.vm.findClass RX5 = some m.cls := findClass_of_methodNamed B.named
  have hlocks := B.notSynchronized
  subst hsz
  have hK := hT.1
  have hD := hD0.self (sz := s.heap.size)
  generalize hAe : va_A [(h0, .inr (5, [.ref ai, .ref pu, .ref pa, .ref ga, .ref sc, .ref hi, .ref gr, .int (nI me), .int (nI dp), .int (bI up), .int (nI mi), .int (nI ru), .long wp, .long wl]))] s.heap.size = A at hD ⊢
  have hA : ∀ q : Nat, s.heap.size ≤ q → A q := fun q h => by rw [← hAe]; exact Or.inr h
  have hS : va_S A s.heap s.heap [] := va_S.rf
  obtain ⟨H, hHe⟩ : ∃ H : Heap, H = s.heap := ⟨_, rfl⟩
  have hS : va_S A s.heap H [] := by rw [hHe]; exact va_S.rf
  rw [← hHe] at hP
  suffices K0 : W p l e (headSpec wsX5_water ({ frames := 1, cells := 0, slots := 0, locals := 22 } : Room)).room s m args below meth c H [] 0 0 (MQ below (Ql9 D A [(h0, .inr (5, [.ref ai, .ref pu, .ref pa, .ref ga, .ref sc, .ref hi, .ref gr, .int (nI me), .int (nI dp), .int (bI up), .int (nI mi), .int (nI ru), .long wp, .long wl]))] (wl)) args s 0 0 A) (entryFrame m args 2) by rw [hHe] at K0; exact K0
  refine W.eq (g2 := entryFrame m ([.ref h0, .int (nI 3)] : List Value).toArray 2) (by rw [hargs]) ?_
  have hl := lv_entry ([.ref h0, .int (nI 3)]) (n := 2) (Nat.le_of_ble_eq_true rfl)
  rw [lg_entry_eq]
  generalize (lg_sl ([.ref h0, .int (nI 3)]) ++ List.replicate (2 - (lg_sl ([.ref h0, .int (nI 3)])).length) Slot.unset).toArray = ls at hl ⊢
  have hl : lv_has ls 2 [(0, .ref h0), (1, .int (nI 3))] := hl
  generalize ([] : List Loc) = locs at hS ⊢
  have hinX5 : ∀ w ∈ wsX50, w ∈ wsX5_water := by decide +kernel
  have hf73 := hts (.fieldLink RX5 73 "Brightband" "waterLeft" "J") (by decide +kernel)
  refine lv_iload_n hx hb dX5_water_0 rfl (lv_at hl 1 rfl) ?_
  refine lv_iconst (v := nI 0) hx hb dX5_water_1 (by decide) ?_
  refine lv_iconst (v := nI 3) hx hb dX5_water_2 (by decide) ?_
  refine cr_v (wc := []) (w1 := []) (ws2 := [(h0, .inr (5, [.ref ai, .ref pu, .ref pa, .ref ga, .ref sc, .ref hi, .ref gr, .int (nI me), .int (nI dp), .int (bI up), .int (nI mi), .int (nI ru), .long wp, .long wl]))]) hP hD hS hA [] rfl rfl rfl (va_runS (As := [.int (nI 3), .int (nI 0), .int (nI 3)]) (rest := []) ⟨hx, hb, hml, hown, hts⟩ (c_X5_requireRange l D cI cJ cZ 3 0 3 (by omega) (by omega) (by omega) H.size) (va_cwS 3 hts gX5_water_X5_requireRange rfl rfl rfl (by decide +kernel) ⟨Nat.le_of_ble_eq_true rfl, Nat.le_of_ble_eq_true rfl⟩) (pvS hT hP hD [] rfl rfl) rfl rfl hl.1 rfl (lv_room (Nat.le_of_ble_eq_true rfl)) dX5_water_3 ⟨Nat.zero_le _, Nat.zero_le _⟩) (fun H locs hP hD hS => ?_)
  refine lv_iload_n hx hb dX5_water_6 rfl (lv_at hl 1 rfl) ?_
  refine lv_tableOut (tgt := 50) hx hb dX5_water_7 (by decide) (by decide) ?_
  refine lv_aload_n hx hb dX5_water_50 rfl (lv_at hl 0 rfl) ?_
  refine va_get (D := D) (ci := 5) (v := .long wl) (C := RX5) (T := TX5) (N := 14) hx hb hts hinX5 hown hK hP 0 rfl rfl 13 (by decide) hf73 (fun _ h9 => h9) rfl dX5_water_51 ?_
  exact fin_l hx hb hr hlocks hP hD hS (rfl) dX5_water_54
