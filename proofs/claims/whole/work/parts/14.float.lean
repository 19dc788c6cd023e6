/-! ===== doubles: what the class and the reference do with them ===== -/
theorem f_q : (FP.Core.b64.qmin - 2 * FP.Core.b64.qmin).toNat = 1074 := by decide
theorem f_inf : FP.Core.infBits FP.Core.b64 = 9218868437227405312 := FP.Core.infBits_b64
theorem f_mag {a : UInt64} (h : a.toNat < 9223372036854775808) : FP.Core.mag FP.Core.b64 a.toNat = a.toNat := by
  rw [FP.Core.mag_toNat64]
  exact Nat.mod_eq_of_lt (by omega)
theorem f_sgn {a : UInt64} {s : Bool} {c : Nat} {q : Int} (h : a.toNat < 9218868437227405312) (e : FP.Core.decode FP.Core.b64 a.toNat = .fin s c q) : s = false := by
  have h1 := FP.Core.sgn_decode (f := FP.Core.b64) (n := a.toNat) (by rw [f_mag (by omega), f_inf]; omega) (FP.Core.lt_full64 a)
  rw [e, FP.Core.half_b64] at h1
  have h2 : decide (2 ^ 63 ≤ a.toNat) = false := decide_eq_false (by omega)
  rw [h2] at h1
  exact h1
theorem f_mul {a b : UInt64} (ha : a.toNat < 9218868437227405312) (hb : b.toNat < 9218868437227405312) : ∃ (c d : Nat) (q r : Int), FP.Core.decode FP.Core.b64 (FP.dmul a b).toNat = FP.Core.roundRatio FP.Core.b64 false (c * d) 1 (q + r) ∧ 2 * FP.Core.b64.qmin ≤ q + r ∧ FP.Core.inUnits (c * d) (q + r) (2 * FP.Core.b64.qmin) = FP.Core.unitsOf FP.Core.b64 a.toNat * FP.Core.unitsOf FP.Core.b64 b.toNat := by
  have h1 : (FP.dmul a b).toNat = FP.Core.mul FP.Core.b64 a.toNat b.toNat := FP.Core.toNat_of64 (FP.Core.round_fits FP.Core.good_b64 _)
  obtain ⟨s, c, q, x1, x2, x3⟩ := FP.Core.fin_of_mag FP.Core.good_b64 (n := a.toNat) (by rw [f_mag (by omega), f_inf]; exact ha)
  obtain ⟨t, d, r, y1, y2, y3⟩ := FP.Core.fin_of_mag FP.Core.good_b64 (n := b.toNat) (by rw [f_mag (by omega), f_inf]; exact hb)
  have s0 := f_sgn ha x1
  have t0 := f_sgn hb y1
  subst s0
  subst t0
  obtain ⟨p1, p2, p3⟩ := FP.Core.product_units x2 y2
  refine ⟨c, d, q, r, ?_, p2, ?_⟩
  · rw [h1]
    unfold FP.Core.mul
    rw [FP.Core.decode_enc FP.Core.good_b64 (FP.Core.round_fits FP.Core.good_b64 _), x1, y1, p1]
    rfl
  · rw [p3, x3, y3, f_mag (by omega), f_mag (by omega)]
theorem f_pos {n : UInt64} {c : Nat} {e : Int} (h : FP.Core.decode FP.Core.b64 n.toNat = FP.Core.roundRatio FP.Core.b64 false c 1 e) : n.toNat < 9223372036854775808 := by
  have h1 : FP.Core.mag FP.Core.b64 n.toNat ≤ FP.Core.infBits FP.Core.b64 := Nat.le_of_not_lt fun h1 => FP.Core.roundRatio_ne_nan FP.Core.b64 false c 1 e (h ▸ (FP.Core.decode_nan n.toNat).mpr h1)
  have h2 := FP.Core.sgn_decode (f := FP.Core.b64) h1 (FP.Core.lt_full64 n)
  rw [h, FP.Core.sgn_roundRatio, FP.Core.half_b64] at h2
  have h3 := of_decide_eq_false h2.symm
  omega
theorem f_mul_ub {a b : UInt64} {K : Nat} (ha : a.toNat < K * 4503599627370496) (hK : K ≤ 2000) (hb : b.toNat < 1023 * 4503599627370496) (hK2 : 3 ≤ K) : (FP.dmul a b).toNat < (K + 1) * 4503599627370496 := by
  obtain ⟨c, d, q, r, h1, -, -⟩ := f_mul (a := a) (b := b) (by omega) (by omega)
  have h2 := f_pos h1
  have h3 := FP.Core.dmul_mag (a := a) (b := b) (Ka := K) (Kb := 1023) (by omega) (by omega) (by omega) (by omega)
  have h4 : (FP.dmul a b).toNat % 2 ^ 63 < (K + 1023 - 1025 + 3) * 2 ^ 52 := h3
  omega
theorem f_start {K : Nat} (h : 1 ≤ K) : FP.Core.unitsOf FP.Core.b64 (K * 4503599627370496) = 4503599627370496 * 2 ^ (K - 1) := by
  have h1 := FP.Core.unitsOf_start (f := FP.Core.b64) h
  rw [FP.Core.tails_b64] at h1
  exact h1
theorem f_mul_lb {a b : UInt64} {L : Nat} (ha : a.toNat < 9218868437227405312) (hb : b.toNat < 9218868437227405312) (h1 : L * 4503599627370496 ≤ a.toNat) (h2 : 1022 * 4503599627370496 ≤ b.toNat) (hL : 2 ≤ L) : (L - 1) * 4503599627370496 ≤ (FP.dmul a b).toNat := by
  obtain ⟨c, d, q, r, g1, g2, g3⟩ := f_mul ha hb
  have hp := f_pos g1
  have hq : FP.Core.b64.qmin < 0 := by decide
  have h5 := FP.Core.mag_ge FP.Core.good_b64 g1 (by decide) (e0 := 2 * FP.Core.b64.qmin) (m := (L - 1) * 4503599627370496) (by omega) g2 (by rw [f_inf]; exact Nat.le_trans (Nat.mul_le_mul_right _ (Nat.sub_le L 1)) (Nat.le_trans h1 (Nat.le_of_lt ha))) (by
    rw [g3, f_q, f_start (by omega), Nat.mul_one]
    have u1 : 4503599627370496 * 2 ^ (L - 1) ≤ FP.Core.unitsOf FP.Core.b64 a.toNat := by rw [← f_start (by omega)]; exact FP.Core.unitsOf_le_iff.mpr h1
    have u2 : 4503599627370496 * 2 ^ 1021 ≤ FP.Core.unitsOf FP.Core.b64 b.toNat := by rw [← f_start (K := 1022) (by omega)]; exact FP.Core.unitsOf_le_iff.mpr h2
    refine Nat.le_trans (Nat.le_of_eq ?_) (Nat.mul_le_mul u1 u2)
    rw [show (4503599627370496 : Nat) = 2 ^ 52 from rfl, ← Nat.pow_add, ← Nat.pow_add, ← Nat.pow_add, ← Nat.pow_add, ← Nat.pow_add]
    congr 1
    omega)
  rw [f_mag hp] at h5
  exact h5
theorem f_dbl {m : Nat} (h : 4503599627370496 ≤ m) : FP.Core.unitsOf FP.Core.b64 (m + 4503599627370496) = 2 * FP.Core.unitsOf FP.Core.b64 m := by
  unfold FP.Core.unitsOf
  rw [show FP.Core.b64.tails = 4503599627370496 from by decide, if_neg (by omega), if_neg (by omega), show (m + 4503599627370496) % 4503599627370496 = m % 4503599627370496 by omega, show (m + 4503599627370496) / 4503599627370496 - 1 = (m / 4503599627370496 - 1) + 1 by omega, Nat.pow_succ]
  ac_rfl
theorem f_two {a : UInt64} (h1 : 4503599627370496 ≤ a.toNat) (h2 : a.toNat < 2046 * 4503599627370496) : (FP.dmul a 4611686018427387904).toNat = a.toNat + 4503599627370496 := by
  have ht : (4611686018427387904 : UInt64).toNat = 1024 * 4503599627370496 := by decide
  obtain ⟨c, d, q, r, g1, g2, g3⟩ := f_mul (a := a) (b := 4611686018427387904) (by omega) (by rw [ht]; omega)
  have hp := f_pos g1
  have hq : FP.Core.b64.qmin < 0 := by decide
  have key : FP.Core.unitsOf FP.Core.b64 (a.toNat + 4503599627370496) * 2 ^ 1074 * 1 = FP.Core.unitsOf FP.Core.b64 a.toNat * FP.Core.unitsOf FP.Core.b64 (4611686018427387904 : UInt64).toNat := by
    have hp2 : (4503599627370496 : Nat) * 2 ^ (1024 - 1) = 2 ^ 1074 * 2 := by
      rw [show (4503599627370496 : Nat) = 2 ^ 52 from rfl, ← Nat.pow_add]
      exact Nat.pow_succ 2 1074
    rw [f_dbl h1, ht, f_start (by omega), hp2, Nat.mul_one]
    generalize (2 : Nat) ^ 1074 = P
    rw [Nat.mul_comm 2 _, Nat.mul_assoc, Nat.mul_comm 2 P]
  have h5 := FP.Core.mag_ge FP.Core.good_b64 g1 (by decide) (e0 := 2 * FP.Core.b64.qmin) (m := a.toNat + 4503599627370496) (by omega) g2 (by rw [f_inf]; omega) (by rw [g3, f_q, key]; exact Nat.le_refl _)
  have h6 := FP.Core.mag_le FP.Core.good_b64 g1 (by decide) (e0 := 2 * FP.Core.b64.qmin) (m := a.toNat + 4503599627370496) (by omega) g2 (by rw [g3, f_q, key]; exact Nat.le_refl _)
  rw [f_mag hp] at h5 h6
  omega
theorem f_cmp {x y : UInt64} (hx : x.toNat < 9218868437227405312) (hy : y.toNat < 9218868437227405312) : FP.dcmp x y = some (compare (x.toNat : Int) (y.toNat : Int)) := by
  have k : ∀ {z : UInt64}, z.toNat < 9218868437227405312 → FP.Core.key FP.Core.b64 z.toNat = (z.toNat : Int) := by
    intro z hz
    unfold FP.Core.key
    rw [f_mag (by omega), FP.Core.half_b64, decide_eq_false (by omega)]
    rfl
  have nn : ∀ {z : UInt64}, z.toNat < 9218868437227405312 → FP.Core.decode FP.Core.b64 z.toNat ≠ .nan := by
    intro z hz h
    have := (FP.Core.decode_nan (f := FP.Core.b64) z.toNat).mp h
    rw [f_mag (by omega), f_inf] at this
    omega
  have h := FP.Core.cmp_key FP.Core.good_b64 (FP.Core.lt_full64 x) (FP.Core.lt_full64 y) (nn hx) (nn hy)
  rw [k hx, k hy] at h
  exact h
theorem f_nn {r : UInt64} (h : r.toNat < 9218868437227405312) : vf_n64 r := by
  show r &&& 0x7fffffffffffffff ≤ 0x7ff0000000000000
  rw [UInt64.le_iff_toNat_le, UInt64.toNat_and]
  exact Nat.le_trans Nat.and_le_left (Nat.le_of_lt h)
section MYDBL
variable {p : Program} {l : Launch} {e : Env} {R : Room} {s : State} {m : MethodId} {args : Array Value} {below : List Frame} {meth : Method} {c : Code} {H : Heap} {locs : List Loc} {cells slots : Nat} {Q : State → Prop} {pc : Nat} {ls : Array Slot} {rest : List Value} {cc : ByteArray}
theorem f_cv {x y : UInt64} (hx : x.toNat < 9218868437227405312) (hy : y.toNat < 9218868437227405312) (op : CmpOp) : (x.toNat < y.toNat ∧ Op.cmpValue (FP.dcmp x y) op = -1) ∨ (x.toNat = y.toNat ∧ Op.cmpValue (FP.dcmp x y) op = 0) ∨ (y.toNat < x.toNat ∧ Op.cmpValue (FP.dcmp x y) op = 1) := by
  rw [f_cmp hx hy]
  rcases Nat.lt_trichotomy x.toNat y.toNat with h | h | h
  · have e : compare (x.toNat : Int) (y.toNat : Int) = .lt := by rw [Int.compare_eq_lt]; omega
    rw [e]
    exact Or.inl ⟨h, by cases op <;> rfl⟩
  · have e : compare (x.toNat : Int) (y.toNat : Int) = .eq := by rw [Int.compare_eq_eq]; omega
    rw [e]
    exact Or.inr (Or.inl ⟨h, by cases op <;> rfl⟩)
  · have e : compare (x.toNat : Int) (y.toNat : Int) = .gt := by rw [Int.compare_eq_gt]; omega
    rw [e]
    exact Or.inr (Or.inr ⟨h, by cases op <;> rfl⟩)
theorem cd_gt (hexec : p.tables.exec = Jvm.exec) (hb : c.code = cc) {x y : UInt64} {o : CmpOp} {off : Int} {tgt : Nat} (hd0 : decode cc pc = .ok (.dcmp o, 1)) (hdg : decode cc (pc + 1) = .ok (.ifCond .gt off, 3)) (ht : ((pc + 1 : Nat) : Int) + off = (tgt : Int)) (hx : x.toNat < 9218868437227405312) (hy : y.toNat < 9218868437227405312) (kt : y.toNat < x.toNat → W p l e R s m args below meth c H locs cells slots Q (F0 m tgt ls rest)) (kf : x.toNat ≤ y.toNat → W p l e R s m args below meth c H locs cells slots Q (F0 m (pc + 1 + 3) ls rest)) : W p l e R s m args below meth c H locs cells slots Q (F0 m pc ls (.double y :: .double x :: rest)) := by
  refine lv_dcmp hexec hb hd0 ?_
  rcases f_cv hx hy o with ⟨h, e⟩ | ⟨h, e⟩ | ⟨h, e⟩ <;> rw [e]
  · exact lv_if_gt hexec hb hdg ht (fun z => absurd z (by decide)) (fun _ => kf (by omega))
  · exact lv_if_gt hexec hb hdg ht (fun z => absurd z (by decide)) (fun _ => kf (by omega))
  · exact lv_if_gt hexec hb hdg ht (fun _ => kt (by omega)) (fun z => absurd (by decide) z)
theorem cd_ge (hexec : p.tables.exec = Jvm.exec) (hb : c.code = cc) {x y : UInt64} {o : CmpOp} {off : Int} {tgt : Nat} (hd0 : decode cc pc = .ok (.dcmp o, 1)) (hdg : decode cc (pc + 1) = .ok (.ifCond .ge off, 3)) (ht : ((pc + 1 : Nat) : Int) + off = (tgt : Int)) (hx : x.toNat < 9218868437227405312) (hy : y.toNat < 9218868437227405312) (kt : y.toNat ≤ x.toNat → W p l e R s m args below meth c H locs cells slots Q (F0 m tgt ls rest)) (kf : x.toNat < y.toNat → W p l e R s m args below meth c H locs cells slots Q (F0 m (pc + 1 + 3) ls rest)) : W p l e R s m args below meth c H locs cells slots Q (F0 m pc ls (.double y :: .double x :: rest)) := by
  refine lv_dcmp hexec hb hd0 ?_
  rcases f_cv hx hy o with ⟨h, e⟩ | ⟨h, e⟩ | ⟨h, e⟩ <;> rw [e]
  · exact lv_if_ge hexec hb hdg ht (fun z => absurd z (by decide)) (fun _ => kf (by omega))
  · exact lv_if_ge hexec hb hdg ht (fun _ => kt (by omega)) (fun z => absurd (by decide) z)
  · exact lv_if_ge hexec hb hdg ht (fun _ => kt (by omega)) (fun z => absurd (by decide) z)
theorem cd_lt (hexec : p.tables.exec = Jvm.exec) (hb : c.code = cc) {x y : UInt64} {o : CmpOp} {off : Int} {tgt : Nat} (hd0 : decode cc pc = .ok (.dcmp o, 1)) (hdg : decode cc (pc + 1) = .ok (.ifCond .lt off, 3)) (ht : ((pc + 1 : Nat) : Int) + off = (tgt : Int)) (hx : x.toNat < 9218868437227405312) (hy : y.toNat < 9218868437227405312) (kt : x.toNat < y.toNat → W p l e R s m args below meth c H locs cells slots Q (F0 m tgt ls rest)) (kf : y.toNat ≤ x.toNat → W p l e R s m args below meth c H locs cells slots Q (F0 m (pc + 1 + 3) ls rest)) : W p l e R s m args below meth c H locs cells slots Q (F0 m pc ls (.double y :: .double x :: rest)) := by
  refine lv_dcmp hexec hb hd0 ?_
  rcases f_cv hx hy o with ⟨h, e⟩ | ⟨h, e⟩ | ⟨h, e⟩ <;> rw [e]
  · exact lv_if_lt hexec hb hdg ht (fun _ => kt (by omega)) (fun z => absurd (by decide) z)
  · exact lv_if_lt hexec hb hdg ht (fun z => absurd z (by decide)) (fun _ => kf (by omega))
  · exact lv_if_lt hexec hb hdg ht (fun z => absurd z (by decide)) (fun _ => kf (by omega))
theorem cd_ne (hexec : p.tables.exec = Jvm.exec) (hb : c.code = cc) {x y : UInt64} {o : CmpOp} {off : Int} {tgt : Nat} (hd0 : decode cc pc = .ok (.dcmp o, 1)) (hdg : decode cc (pc + 1) = .ok (.ifCond .ne off, 3)) (ht : ((pc + 1 : Nat) : Int) + off = (tgt : Int)) (hx : x.toNat < 9218868437227405312) (hy : y.toNat < 9218868437227405312) (kt : x.toNat ≠ y.toNat → W p l e R s m args below meth c H locs cells slots Q (F0 m tgt ls rest)) (kf : x.toNat = y.toNat → W p l e R s m args below meth c H locs cells slots Q (F0 m (pc + 1 + 3) ls rest)) : W p l e R s m args below meth c H locs cells slots Q (F0 m pc ls (.double y :: .double x :: rest)) := by
  refine lv_dcmp hexec hb hd0 ?_
  rcases f_cv hx hy o with ⟨h, e⟩ | ⟨h, e⟩ | ⟨h, e⟩ <;> rw [e]
  · exact lv_if_ne hexec hb hdg ht (fun _ => kt (by omega)) (fun z => absurd z (by decide))
  · exact lv_if_ne hexec hb hdg ht (fun z => absurd z (by decide)) (fun _ => kf (by omega))
  · exact lv_if_ne hexec hb hdg ht (fun _ => kt (by omega)) (fun z => absurd z (by decide))
end MYDBL
def dbl (x : UInt64) (i : Nat) : UInt64 := UInt64.ofNat (x.toNat + i * 4503599627370496)
theorem dbl_n {x : UInt64} {i : Nat} (h : x.toNat + i * 4503599627370496 < 2047 * 4503599627370496) : (dbl x i).toNat = x.toNat + i * 4503599627370496 := by
  unfold dbl
  rw [UInt64.toNat_ofNat_of_lt' (by show _ < 18446744073709551616; omega)]
theorem dbl_0 (x : UInt64) : dbl x 0 = x := by
  unfold dbl
  rw [Nat.zero_mul, Nat.add_zero]
  exact UInt64.ofNat_toNat
theorem sm9 (x i c : Nat) : x + (i + 1) * c = x + (i * c + c) := by rw [Nat.succ_mul]
theorem sm8 {x k c d e : Nat} (h : x + k < d) (hd : d + c = e) : x + (k + c) < e := by omega
theorem dbl_s {x : UInt64} {i : Nat} (h1 : 4503599627370496 ≤ x.toNat) (h : x.toNat + i * 4503599627370496 < 2046 * 4503599627370496) : FP.dmul (dbl x i) 4611686018427387904 = dbl x (i + 1) := by
  apply UInt64.toNat_inj.mp
  have e1 : (dbl x i).toNat = x.toNat + i * 4503599627370496 := dbl_n (Nat.lt_trans h (by decide))
  have e2 : (dbl x (i + 1)).toNat = x.toNat + (i * 4503599627370496 + 4503599627370496) := (dbl_n (Nat.lt_of_le_of_lt (Nat.le_of_eq (sm9 x.toNat i 4503599627370496)) (sm8 h (by decide)))).trans (sm9 x.toNat i 4503599627370496)
  rw [f_two (by rw [e1]; exact Nat.le_trans h1 (Nat.le_add_right _ _)) (by rw [e1]; exact h), e1, e2, Nat.add_assoc]
def PD (x : UInt64) : Prop := x.toNat = 0 ∨ (4503599627370496 ≤ x.toNat ∧ x.toNat < 1075 * 4503599627370496)
def dn9 (x : UInt64) : Nat := 1075 - x.toNat / 4503599627370496
def bt9 (x : UInt64) : Int64 := if x.toNat = 0 then 0 else (lN (1075 - dn9 x) <<< (((nI 52 : Int32)).toInt64 &&& 63)) + (FP.d2l (dbl x (dn9 x)) - 4503599627370496)
theorem eL_s {i : Nat} (h : i < 1075) : lN (1075 - i) - 1 = lN (1075 - (i + 1)) := by
  have h1 := lN_sub (a := 1075 - i) (b := 1) (by omega)
  rw [show (1 : Int64) = lN 1 from rfl, h1]
  congr 1
theorem eL_pos {i : Nat} (h : i < 1075) : ¬ lN (1075 - i) ≤ 0 := by
  intro h2
  have h3 : lN (1075 - i) ≤ lN 0 := h2
  rw [lN_le (by omega) (by omega)] at h3
  omega
def we9 (f : Nat → Int64) (x0 : UInt64) : Nat → UInt64 | 0 => x0 | a + 1 => if 1000 ≤ f a then FP.dmul (we9 f x0 a) 4606281698874543309 else if 100 ≤ f a then FP.dmul (we9 f x0 a) 4607002274814922588 else we9 f x0 a
def WB (a : Nat) (x : UInt64) : Prop := x.toNat = 0 ∨ ((1023 - a) * 4503599627370496 ≤ x.toNat ∧ x.toNat < (1052 + a) * 4503599627370496)
theorem WB_mul {a : Nat} {x c : UInt64} (ha : a < 20) (hc1 : 1022 * 4503599627370496 ≤ c.toNat) (hc2 : c.toNat < 1023 * 4503599627370496) (hz : FP.dmul 0 c = 0) (h : WB a x) : WB (a + 1) (FP.dmul x c) := by
  rcases h with h | ⟨h1, h2⟩
  · have e : x = 0 := UInt64.toNat_inj.mp h
    rw [e, hz]
    exact Or.inl rfl
  · have g1 := f_mul_lb (a := x) (b := c) (L := 1023 - a) (by omega) (by omega) h1 hc1 (by omega)
    have g2 := f_mul_ub (a := x) (b := c) (K := 1052 + a) h2 (by omega) hc2 (by omega)
    exact Or.inr ⟨by rw [show 1023 - (a + 1) = 1023 - a - 1 by omega]; exact g1, g2⟩
theorem WB_up {a : Nat} {x : UInt64} (h : WB a x) : WB (a + 1) x := by
  rcases h with h | ⟨h1, h2⟩
  · exact Or.inl h
  · exact Or.inr ⟨Nat.le_trans (Nat.mul_le_mul_right _ (by omega)) h1, Nat.lt_of_lt_of_le h2 (Nat.mul_le_mul_right _ (by omega))⟩
theorem WB_9 {a : Nat} {x : UInt64} (ha : a < 20) (h : WB a x) : WB (a + 1) (FP.dmul x 4606281698874543309) := WB_mul ha (by decide) (by decide) (by decide +kernel) h
theorem WB_98 {a : Nat} {x : UInt64} (ha : a < 20) (h : WB a x) : WB (a + 1) (FP.dmul x 4607002274814922588) := WB_mul ha (by decide) (by decide) (by decide +kernel) h
theorem WB_fin {a : Nat} {x : UInt64} (ha : a < 21) (h : WB a x) : x.toNat < 9218868437227405312 := by
  rcases h with h | ⟨h1, h2⟩ <;> omega
theorem WB_PD {a : Nat} {x : UInt64} (ha : a < 21) (h : WB a x) : PD x := by
  rcases h with h | ⟨h1, h2⟩
  · exact Or.inl h
  · exact Or.inr ⟨Nat.le_trans (Nat.le_trans (Nat.le_of_eq (Nat.one_mul _).symm) (Nat.mul_le_mul_right _ (show 1 ≤ 1023 - a by omega))) h1, Nat.lt_of_lt_of_le h2 (Nat.mul_le_mul_right _ (by omega))⟩
theorem we9_b {f : Nat → Int64} {x0 : UInt64} (h0 : WB 0 x0) : ∀ a, a < 21 → WB a (we9 f x0 a)
  | 0, _ => h0
  | a + 1, h => by
    have ih := we9_b (f := f) (x0 := x0) h0 a (by omega)
    show WB (a + 1) (if 1000 ≤ f a then FP.dmul (we9 f x0 a) 4606281698874543309 else if 100 ≤ f a then FP.dmul (we9 f x0 a) 4607002274814922588 else we9 f x0 a)
    split
    · exact WB_9 (by omega) ih
    · split
      · exact WB_98 (by omega) ih
      · exact WB_up ih
theorem l2d_b {v : Int64} (h1 : 0 ≤ v.toInt) (h2 : v.toInt < 268435456) : WB 0 (FP.l2d v) := by
  have e : (FP.l2d v).toNat = FP.Core.fromInt FP.Core.b64 v.toInt := FP.Core.toNat_l2d v
  have hd : FP.Core.decode FP.Core.b64 (FP.Core.fromInt FP.Core.b64 v.toInt) = FP.Core.roundRatio FP.Core.b64 (decide (v.toInt < 0)) v.toInt.natAbs 1 0 := FP.Core.decode_enc FP.Core.good_b64 (FP.Core.round_fits FP.Core.good_b64 _)
  rw [decide_eq_false (by omega), ← e] at hd
  have hp := f_pos hd
  rcases Decidable.em (v.toInt = 0) with h0 | h0
  · have hv : v = 0 := Int64.toInt_inj.mp (by rw [h0]; rfl)
    rw [hv]
    exact Or.inl (by decide +kernel)
  · have g1 := (FP.Core.l2d_big h0).1
    have g2 := FP.Core.int_mag FP.Core.good_b64 (i := v.toInt) (j := 28) (K := 1051) (by omega) (by omega) (by decide)
    rw [← e, f_mag hp, FP.Core.tails_b64] at g2
    have g1' : 1023 * 2 ^ 52 ≤ (FP.l2d v).toNat % 2 ^ 63 := g1
    exact Or.inr ⟨by omega, by omega⟩
set_option maxHeartbeats 4000000 in
set_option maxRecDepth 100000 in
theorem c_X5_bitsOf (l : Launch) (D : va_G) (cI cJ cZ : ClassId) (xd : UInt64) (hpd : PD xd) (sz : Nat) : Met l yX5_bitsOf wsX5_bitsOf ({ frames := 0, cells := 0, slots := 0, locals := 0 } : Room) (va_Pc [.double xd] (mPre D cI cJ cZ [] sz)) (Ql9 D (va_A [] sz) [] (bt9 xd)) 0 0 (va_A [] sz) := by
  refine Met.ofW (cc := cX5_bitsOf) (maxL := 6) (ret := (some .long)) (by decide) rfl ?_
  intro p e s m args below meth c s₁ B hml hv
  obtain ⟨hargs, hsz, hP, hT, hD0⟩ := hv
  have hx := B.exec
  have hb := B.bytes
  have hr := B.returns
  have hts := atoms_spec (ws := wsX5_bitsOf) B.pre
  have hown : s.vm.findClass RX5 = some m.cls := findClass_of_methodNamed B.named
  have hlocks := B.notSynchronized
  subst hsz
  have hK := hT.1
  have hD := hD0.self (sz := s.heap.size)
  generalize hAe : va_A [] s.heap.size = A at hD ⊢
  have hA : ∀ q : Nat, s.heap.size ≤ q → A q := fun q h => by rw [← hAe]; exact Or.inr h
  have hS : va_S A s.heap s.heap [] := va_S.rf
  obtain ⟨H, hHe⟩ : ∃ H : Heap, H = s.heap := ⟨_, rfl⟩
  have hS : va_S A s.heap H [] := by rw [hHe]; exact va_S.rf
  rw [← hHe] at hP
  suffices K0 : W p l e (headSpec wsX5_bitsOf ({ frames := 0, cells := 0, slots := 0, locals := 0 } : Room)).room s m args below meth c H [] 0 0 (MQ below (Ql9 D A [] (bt9 xd)) args s 0 0 A) (entryFrame m args 6) by rw [hHe] at K0; exact K0
  refine W.eq (g2 := entryFrame m ([.double xd] : List Value).toArray 6) (by rw [hargs]) ?_
  have hl := lv_entry ([.double xd]) (n := 6) (Nat.le_of_ble_eq_true rfl)
  rw [lg_entry_eq]
  generalize (lg_sl ([.double xd]) ++ List.replicate (6 - (lg_sl ([.double xd])).length) Slot.unset).toArray = ls at hl ⊢
  have hl : lv_has ls 6 [(0, .double xd)] := hl
  generalize ([] : List Loc) = locs at hS ⊢
  have hc265 := hts (.constantLong RX5 265 (1075)) (by decide +kernel)
  have hc267 := hts (.constantDouble RX5 267 (4841369599423283200)) (by decide +kernel)
  have hc271 := hts (.constantLong RX5 271 (4503599627370496)) (by decide +kernel)
  have hc269 := hts (.constantDouble RX5 269 (4611686018427387904)) (by decide +kernel)
  have hxf : xd.toNat < 9218868437227405312 := by rcases hpd with h | h <;> omega
  refine lv_dload_n hx hb dX5_bitsOf_0 rfl (lv_at hl 0 rfl) ?_
  refine lv_dconst0 hx hb dX5_bitsOf_1 ?_
  refine cd_gt (tgt := 8) hx hb dX5_bitsOf_2 dX5_bitsOf_3 (by decide) hxf (by decide) (fun c_3 => ?_) (fun c_3 => ?_)
  · have hx1 : 4503599627370496 ≤ xd.toNat := by have h0 : (FP.dconst0 : UInt64).toNat = 0 := rfl; rcases hpd with h | h <;> omega
    have hx2 : xd.toNat < 1075 * 4503599627370496 := by rcases hpd with h | h <;> omega
    have hq1 : dn9 xd = 1075 - xd.toNat / 4503599627370496 := rfl
    have hq2 : (4841369599423283200 : UInt64).toNat = 1075 * 4503599627370496 := by decide
    refine lv_dload_n hx hb dX5_bitsOf_8 rfl (lv_at hl 0 rfl) ?_
    refine lv_dstore_n (lv' := [(2, .double xd), (0, .double xd)]) hx hb dX5_bitsOf_9 rfl hl (by decide) rfl (fun ls hl => ?_)
    refine lv_ldc2 (v := 1075) hx hb hown hc265 dX5_bitsOf_10 ?_
    refine lv_lstore (lv' := [(4, .long 1075), (2, .double xd), (0, .double xd)]) hx hb dX5_bitsOf_13 hl (by decide) rfl (fun ls hl => ?_)
    have lp15 : ∀ (n i : Nat), i + n = (dn9 xd) → ∀ (H : Heap) (locs : List Loc), va_P D vwCl [] H → va_D A [] → va_S A s.heap H locs → ∀ (ls : Array Slot), lv_has ls 6 [(0, .double xd), (2, .double (dbl xd i)), (4, .long (lN (1075 - i)))] → W p l e (headSpec wsX5_bitsOf ({ frames := 0, cells := 0, slots := 0, locals := 0 } : Room)).room s m args below meth c H locs 0 0 (MQ below (Ql9 D A [] (bt9 xd)) args s 0 0 A) (F0 m 15 ls []) := by
      intro n
      induction n with
      | zero =>
        intro i hcnti H locs hP hD hS ls hl
        obtain rfl : (dn9 xd) = i := by omega
        have hdi := dbl_n (x := xd) (i := dn9 xd) (by omega)
        refine lv_dload_n hx hb dX5_bitsOf_15 rfl (lv_at hl 1 rfl) ?_
        refine lv_ldc2d (v := 4841369599423283200) hx hb hown hc267 dX5_bitsOf_16 ?_
        refine cd_ge (tgt := 45) hx hb dX5_bitsOf_19 dX5_bitsOf_20 (by decide) (by omega) (by rw [hq2]; omega) (fun c_20 => ?_) (fun c_20 => by omega)
        refine lv_lload hx hb dX5_bitsOf_45 (lv_at hl 2 rfl) ?_
        refine lv_bipush (v := nI 52) hx hb dX5_bitsOf_47 (by decide) ?_
        refine lv_lshl (v := (lN (1075 - (dn9 xd))) <<< ((nI 52 : Int32).toInt64 &&& 63)) hx hb dX5_bitsOf_49 rfl ?_
        refine lv_dload_n hx hb dX5_bitsOf_50 rfl (lv_at hl 1 rfl) ?_
        refine lv_d2l hx hb dX5_bitsOf_51 ?_
        refine lv_ldc2 (v := 4503599627370496) hx hb hown hc271 dX5_bitsOf_52 ?_
        refine lv_lsub hx hb dX5_bitsOf_55 ?_
        refine lv_ladd hx hb dX5_bitsOf_56 ?_
        exact fin_l hx hb hr hlocks hP hD hS ((by unfold bt9; rw [if_neg (by omega)])) dX5_bitsOf_57
      | succ n ih =>
        intro i hcnti H locs hP hD hS ls hl
        have hlti : i < (dn9 xd) := by omega
        have hdi := dbl_n (x := xd) (i := i) (by omega)
        refine lv_dload_n hx hb dX5_bitsOf_15 rfl (lv_at hl 1 rfl) ?_
        refine lv_ldc2d (v := 4841369599423283200) hx hb hown hc267 dX5_bitsOf_16 ?_
        refine cd_ge (tgt := 45) hx hb dX5_bitsOf_19 dX5_bitsOf_20 (by decide) (by omega) (by rw [hq2]; omega) (fun c_20 => by omega) (fun c_20 => ?_)
        refine lv_lload hx hb dX5_bitsOf_23 (lv_at hl 2 rfl) ?_
        refine lv_lconst (v := 0) hx hb dX5_bitsOf_25 (by decide) ?_
        refine cl_le (tgt := 45) hx hb dX5_bitsOf_26 dX5_bitsOf_27 (by decide) (fun c_27 => absurd c_27 (eL_pos (by omega))) (fun c_27 => ?_)
        refine lv_dload_n hx hb dX5_bitsOf_30 rfl (lv_at hl 1 rfl) ?_
        refine lv_ldc2d (v := 4611686018427387904) hx hb hown hc269 dX5_bitsOf_31 ?_
        refine lv_dmul hx hb dX5_bitsOf_34 (f_nn (by rw [dbl_s hx1 (by omega), dbl_n (by omega)]; omega)) ?_
        refine tp_d (show FP.dmul (dbl xd i) 4611686018427387904 = dbl xd (i + 1) from dbl_s hx1 (by omega)) ?_
        refine lv_dstore_n (lv' := [(2, .double (dbl xd (i + 1))), (0, .double xd), (4, .long (lN (1075 - i)))]) hx hb dX5_bitsOf_35 rfl hl (by decide) rfl (fun ls hl => ?_)
        refine lv_lload hx hb dX5_bitsOf_36 (lv_at hl 2 rfl) ?_
        refine lv_lconst (v := 1) hx hb dX5_bitsOf_38 (by decide) ?_
        refine lv_lsub hx hb dX5_bitsOf_39 ?_
        refine tp_l (show (lN (1075 - i)) - 1 = lN (1075 - (i + 1)) from eL_s (by omega)) ?_
        refine lv_lstore (lv' := [(4, .long (lN (1075 - (i + 1)))), (2, .double (dbl xd (i + 1))), (0, .double xd)]) hx hb dX5_bitsOf_40 hl (by decide) rfl (fun ls hl => ?_)
        refine lv_goto (tgt := 15) hx hb dX5_bitsOf_42 (by decide) ?_
        exact ih (i + 1) (by omega) H locs hP hD hS ls (lv_sub hl [2, 1, 0] rfl)
    have hle : ([(0, .double xd), (2, .double (dbl xd 0)), (4, .long (lN (1075 - 0)))] : List (Nat × Value)) = [(0, .double xd), (2, .double xd), (4, .long 1075)] := (by rw [dbl_0]; first | done | rfl)
    exact lp15 (dn9 xd) 0 (by omega) H locs hP hD hS ls (by rw [hle]; exact lv_sub hl [2, 1, 0] rfl)
  · have h0 : (FP.dconst0 : UInt64).toNat = 0 := rfl
    refine lv_lconst (v := 0) hx hb dX5_bitsOf_6 (by decide) ?_
    exact fin_l hx hb hr hlocks hP hD hS ((by unfold bt9; rw [if_pos (by omega)])) dX5_bitsOf_7
set_option maxHeartbeats 4000000 in
set_option maxRecDepth 100000 in
theorem c_X6_bits (l : Launch) (D : va_G) (cI cJ cZ : ClassId) (xd : UInt64) (hpd : PD xd) (sz : Nat) : Met l yX6_bits wsX6_bits ({ frames := 0, cells := 0, slots := 0, locals := 0 } : Room) (va_Pc [.double xd] (mPre D cI cJ cZ [] sz)) (Ql9 D (va_A [] sz) [] (bt9 xd)) 0 0 (va_A [] sz) := by
  refine Met.ofW (cc := cX6_bits) (maxL := 6) (ret := (some .long)) (by decide) rfl ?_
  intro p e s m args below meth c s₁ B hml hv
  obtain ⟨hargs, hsz, hP, hT, hD0⟩ := hv
  have hx := B.exec
  have hb := B.bytes
  have hr := B.returns
  have hts := atoms_spec (ws := wsX6_bits) B.pre
  have hown : s.vm.findClass RX6 = some m.cls := findClass_of_methodNamed B.named
  have hlocks := B.notSynchronized
  subst hsz
  have hK := hT.1
  have hD := hD0.self (sz := s.heap.size)
  generalize hAe : va_A [] s.heap.size = A at hD ⊢
  have hA : ∀ q : Nat, s.heap.size ≤ q → A q := fun q h => by rw [← hAe]; exact Or.inr h
  have hS : va_S A s.heap s.heap [] := va_S.rf
  obtain ⟨H, hHe⟩ : ∃ H : Heap, H = s.heap := ⟨_, rfl⟩
  have hS : va_S A s.heap H [] := by rw [hHe]; exact va_S.rf
  rw [← hHe] at hP
  suffices K0 : W p l e (headSpec wsX6_bits ({ frames := 0, cells := 0, slots := 0, locals := 0 } : Room)).room s m args below meth c H [] 0 0 (MQ below (Ql9 D A [] (bt9 xd)) args s 0 0 A) (entryFrame m args 6) by rw [hHe] at K0; exact K0
  refine W.eq (g2 := entryFrame m ([.double xd] : List Value).toArray 6) (by rw [hargs]) ?_
  have hl := lv_entry ([.double xd]) (n := 6) (Nat.le_of_ble_eq_true rfl)
  rw [lg_entry_eq]
  generalize (lg_sl ([.double xd]) ++ List.replicate (6 - (lg_sl ([.double xd])).length) Slot.unset).toArray = ls at hl ⊢
  have hl : lv_has ls 6 [(0, .double xd)] := hl
  generalize ([] : List Loc) = locs at hS ⊢
  have hc116 := hts (.constantLong RX6 116 (1075)) (by decide +kernel)
  have hc118 := hts (.constantDouble RX6 118 (4841369599423283200)) (by decide +kernel)
  have hc122 := hts (.constantDouble RX6 122 (4845873199050653696)) (by decide +kernel)
  have hc124 := hts (.constantLong RX6 124 (4503599627370496)) (by decide +kernel)
  have hc120 := hts (.constantDouble RX6 120 (4611686018427387904)) (by decide +kernel)
  have hxf : xd.toNat < 9218868437227405312 := by rcases hpd with h | h <;> omega
  refine lv_dload_n hx hb dX6_bits_0 rfl (lv_at hl 0 rfl) ?_
  refine lv_dconst0 hx hb dX6_bits_1 ?_
  refine cd_ne (tgt := 8) hx hb dX6_bits_2 dX6_bits_3 (by decide) hxf (by decide) (fun c_3 => ?_) (fun c_3 => ?_)
  · have hx1 : 4503599627370496 ≤ xd.toNat := by have h0 : (FP.dconst0 : UInt64).toNat = 0 := rfl; rcases hpd with h | h <;> omega
    have hx2 : xd.toNat < 1075 * 4503599627370496 := by rcases hpd with h | h <;> omega
    have hq1 : dn9 xd = 1075 - xd.toNat / 4503599627370496 := rfl
    have hq2 : (4841369599423283200 : UInt64).toNat = 1075 * 4503599627370496 := by decide
    refine lv_dload_n hx hb dX6_bits_8 rfl (lv_at hl 0 rfl) ?_
    refine lv_dstore_n (lv' := [(2, .double xd), (0, .double xd)]) hx hb dX6_bits_9 rfl hl (by decide) rfl (fun ls hl => ?_)
    refine lv_ldc2 (v := 1075) hx hb hown hc116 dX6_bits_10 ?_
    refine lv_lstore (lv' := [(4, .long 1075), (2, .double xd), (0, .double xd)]) hx hb dX6_bits_13 hl (by decide) rfl (fun ls hl => ?_)
    have lp15 : ∀ (n i : Nat), i + n = (dn9 xd) → ∀ (H : Heap) (locs : List Loc), va_P D vwCl [] H → va_D A [] → va_S A s.heap H locs → ∀ (ls : Array Slot), lv_has ls 6 [(0, .double xd), (2, .double (dbl xd i)), (4, .long (lN (1075 - i)))] → W p l e (headSpec wsX6_bits ({ frames := 0, cells := 0, slots := 0, locals := 0 } : Room)).room s m args below meth c H locs 0 0 (MQ below (Ql9 D A [] (bt9 xd)) args s 0 0 A) (F0 m 15 ls []) := by
      intro n
      induction n with
      | zero =>
        intro i hcnti H locs hP hD hS ls hl
        obtain rfl : (dn9 xd) = i := by omega
        have hdi := dbl_n (x := xd) (i := dn9 xd) (by omega)
        refine lv_dload_n hx hb dX6_bits_15 rfl (lv_at hl 1 rfl) ?_
        refine lv_ldc2d (v := 4841369599423283200) hx hb hown hc118 dX6_bits_16 ?_
        refine cd_ge (tgt := 38) hx hb dX6_bits_19 dX6_bits_20 (by decide) (by omega) (by rw [hq2]; omega) (fun c_20 => ?_) (fun c_20 => by omega)
        have hq3 : (4845873199050653696 : UInt64).toNat = 1076 * 4503599627370496 := by decide
        refine lv_dload_n hx hb dX6_bits_38 rfl (lv_at hl 1 rfl) ?_
        refine lv_ldc2d (v := 4845873199050653696) hx hb hown hc122 dX6_bits_39 ?_
        refine cd_lt (tgt := 61) hx hb dX6_bits_42 dX6_bits_43 (by decide) (by omega) (by rw [hq3]; omega) (fun c_43 => ?_) (fun c_43 => by omega)
        refine lv_lload hx hb dX6_bits_61 (lv_at hl 2 rfl) ?_
        refine lv_bipush (v := nI 52) hx hb dX6_bits_63 (by decide) ?_
        refine lv_lshl (v := (lN (1075 - (dn9 xd))) <<< ((nI 52 : Int32).toInt64 &&& 63)) hx hb dX6_bits_65 rfl ?_
        refine lv_dload_n hx hb dX6_bits_66 rfl (lv_at hl 1 rfl) ?_
        refine lv_d2l hx hb dX6_bits_67 ?_
        refine lv_ldc2 (v := 4503599627370496) hx hb hown hc124 dX6_bits_68 ?_
        refine lv_lsub hx hb dX6_bits_71 ?_
        refine lv_ladd hx hb dX6_bits_72 ?_
        exact fin_l hx hb hr hlocks hP hD hS ((by unfold bt9; rw [if_neg (by omega)])) dX6_bits_73
      | succ n ih =>
        intro i hcnti H locs hP hD hS ls hl
        have hlti : i < (dn9 xd) := by omega
        have hdi := dbl_n (x := xd) (i := i) (by omega)
        refine lv_dload_n hx hb dX6_bits_15 rfl (lv_at hl 1 rfl) ?_
        refine lv_ldc2d (v := 4841369599423283200) hx hb hown hc118 dX6_bits_16 ?_
        refine cd_ge (tgt := 38) hx hb dX6_bits_19 dX6_bits_20 (by decide) (by omega) (by rw [hq2]; omega) (fun c_20 => by omega) (fun c_20 => ?_)
        refine lv_dload_n hx hb dX6_bits_23 rfl (lv_at hl 1 rfl) ?_
        refine lv_ldc2d (v := 4611686018427387904) hx hb hown hc120 dX6_bits_24 ?_
        refine lv_dmul hx hb dX6_bits_27 (f_nn (by rw [dbl_s hx1 (by omega), dbl_n (by omega)]; omega)) ?_
        refine tp_d (show FP.dmul (dbl xd i) 4611686018427387904 = dbl xd (i + 1) from dbl_s hx1 (by omega)) ?_
        refine lv_dstore_n (lv' := [(2, .double (dbl xd (i + 1))), (0, .double xd), (4, .long (lN (1075 - i)))]) hx hb dX6_bits_28 rfl hl (by decide) rfl (fun ls hl => ?_)
        refine lv_lload hx hb dX6_bits_29 (lv_at hl 2 rfl) ?_
        refine lv_lconst (v := 1) hx hb dX6_bits_31 (by decide) ?_
        refine lv_lsub hx hb dX6_bits_32 ?_
        refine tp_l (show (lN (1075 - i)) - 1 = lN (1075 - (i + 1)) from eL_s (by omega)) ?_
        refine lv_lstore (lv' := [(4, .long (lN (1075 - (i + 1)))), (2, .double (dbl xd (i + 1))), (0, .double xd)]) hx hb dX6_bits_33 hl (by decide) rfl (fun ls hl => ?_)
        refine lv_goto (tgt := 15) hx hb dX6_bits_35 (by decide) ?_
        exact ih (i + 1) (by omega) H locs hP hD hS ls (lv_sub hl [2, 1, 0] rfl)
    have hle : ([(0, .double xd), (2, .double (dbl xd 0)), (4, .long (lN (1075 - 0)))] : List (Nat × Value)) = [(0, .double xd), (2, .double xd), (4, .long 1075)] := (by rw [dbl_0]; first | done | rfl)
    exact lp15 (dn9 xd) 0 (by omega) H locs hP hD hS ls (by rw [hle]; exact lv_sub hl [2, 1, 0] rfl)
  · have h0 : (FP.dconst0 : UInt64).toNat = 0 := rfl
    refine lv_lconst (v := 0) hx hb dX6_bits_6 (by decide) ?_
    exact fin_l hx hb hr hlocks hP hD hS ((by unfold bt9; rw [if_pos (by omega)])) dX6_bits_7
set_option maxHeartbeats 4000000 in
set_option maxRecDepth 100000 in
theorem c_X5_weakenedEcho (l : Launch) (D : va_G) (cI cJ cZ : ClassId) (h0 : Nat) (ai : Nat) (pu : Nat) (pa : Nat) (ga : Nat) (sc : Nat) (hi : Nat) (gr : Nat) (me : Nat) (dp : Nat) (up : Bool) (mi : Nat) (ru : Nat) (wp : Int64) (wl : Int64) (a1 : Nat) (C : Nat → Nat) (ki : Nat) (ev : Nat) (hki : ki < 20) (hev : ev < 4) (hme : me < 10) (hE0 : 0 ≤ (eb9 C me ki ev).toInt) (hE1 : (eb9 C me ki ev).toInt < 268435456) (sz : Nat) : Met l yX5_weakenedEcho wsX5_weakenedEcho ({ frames := 4, cells := 0, slots := 0, locals := 99 } : Room) (va_Pc [.ref h0, .int (nI ki), .int (nI ev)] (mPre D cI cJ cZ [(h0, .inr (5, [.ref ai, .ref pu, .ref pa, .ref ga, .ref sc, .ref hi, .ref gr, .int (nI me), .int (nI dp), .int (bI up), .int (nI mi), .int (nI ru), .long wp, .long wl])), (ai, .inr (0, [.ref a1])), (a1, .inl (cI, 600, .inl (nA C)))] sz)) (Qd9 D (va_A [(h0, .inr (5, [.ref ai, .ref pu, .ref pa, .ref ga, .ref sc, .ref hi, .ref gr, .int (nI me), .int (nI dp), .int (bI up), .int (nI mi), .int (nI ru), .long wp, .long wl])), (ai, .inr (0, [.ref a1])), (a1, .inl (cI, 600, .inl (nA C)))] sz) [(h0, .inr (5, [.ref ai, .ref pu, .ref pa, .ref ga, .ref sc, .ref hi, .ref gr, .int (nI me), .int (nI dp), .int (bI up), .int (nI mi), .int (nI ru), .long wp, .long wl])), (ai, .inr (0, [.ref a1])), (a1, .inl (cI, 600, .inl (nA C)))] (we9 (fun aa => eb9 C me aa ev) (FP.l2d (eb9 C me ki ev)) ki)) 0 0 (va_A [(h0, .inr (5, [.ref ai, .ref pu, .ref pa, .ref ga, .ref sc, .ref hi, .ref gr, .int (nI me), .int (nI dp), .int (bI up), .int (nI mi), .int (nI ru), .long wp, .long wl])), (ai, .inr (0, [.ref a1])), (a1, .inl (cI, 600, .inl (nA C)))] sz) := by
  refine Met.ofW (cc := cX5_weakenedEcho) (maxL := 8) (ret := (some .double)) (by decide) rfl ?_
  intro p e s m args below meth c s₁ B hml hv
  obtain ⟨hargs, hsz, hP, hT, hD0⟩ := hv
  have hx := B.exec
  have hb := B.bytes
  have hr := B.returns
  have hts := atoms_spec (ws := wsX5_weakenedEcho) B.pre
  have hown : s.vm.findClass RX5 = some m.cls := findClass_of_methodNamed B.named
  have hlocks := B.notSynchronized
  subst hsz
  have hK := hT.1
  have hD := hD0.self (sz := s.heap.size)
  generalize hAe : va_A [(h0, .inr (5, [.ref ai, .ref pu, .ref pa, .ref ga, .ref sc, .ref hi, .ref gr, .int (nI me), .int (nI dp), .int (bI up), .int (nI mi), .int (nI ru), .long wp, .long wl])), (ai, .inr (0, [.ref a1])), (a1, .inl (cI, 600, .inl (nA C)))] s.heap.size = A at hD ⊢
  have hA : ∀ q : Nat, s.heap.size ≤ q → A q := fun q h => by rw [← hAe]; exact Or.inr h
  have hS : va_S A s.heap s.heap [] := va_S.rf
  obtain ⟨H, hHe⟩ : ∃ H : Heap, H = s.heap := ⟨_, rfl⟩
  have hS : va_S A s.heap H [] := by rw [hHe]; exact va_S.rf
  rw [← hHe] at hP
  suffices K0 : W p l e (headSpec wsX5_weakenedEcho ({ frames := 4, cells := 0, slots := 0, locals := 99 } : Room)).room s m args below meth c H [] 0 0 (MQ below (Qd9 D A [(h0, .inr (5, [.ref ai, .ref pu, .ref pa, .ref ga, .ref sc, .ref hi, .ref gr, .int (nI me), .int (nI dp), .int (bI up), .int (nI mi), .int (nI ru), .long wp, .long wl])), (ai, .inr (0, [.ref a1])), (a1, .inl (cI, 600, .inl (nA C)))] (we9 (fun aa => eb9 C me aa ev) (FP.l2d (eb9 C me ki ev)) ki)) args s 0 0 A) (entryFrame m args 8) by rw [hHe] at K0; exact K0
  refine W.eq (g2 := entryFrame m ([.ref h0, .int (nI ki), .int (nI ev)] : List Value).toArray 8) (by rw [hargs]) ?_
  have hl := lv_entry ([.ref h0, .int (nI ki), .int (nI ev)]) (n := 8) (Nat.le_of_ble_eq_true rfl)
  rw [lg_entry_eq]
  generalize (lg_sl ([.ref h0, .int (nI ki), .int (nI ev)]) ++ List.replicate (8 - (lg_sl ([.ref h0, .int (nI ki), .int (nI ev)])).length) Slot.unset).toArray = ls at hl ⊢
  have hl : lv_has ls 8 [(0, .ref h0), (1, .int (nI ki)), (2, .int (nI ev))] := hl
  generalize ([] : List Loc) = locs at hS ⊢
  have hc257 := hts (.constantLong RX5 257 (1000)) (by decide +kernel)
  have hc261 := hts (.constantLong RX5 261 (100)) (by decide +kernel)
  have hc263 := hts (.constantDouble RX5 263 (4607002274814922588)) (by decide +kernel)
  have hc259 := hts (.constantDouble RX5 259 (4606281698874543309)) (by decide +kernel)
  refine lv_aload_n hx hb dX5_weakenedEcho_0 rfl (lv_at hl 0 rfl) ?_
  refine lv_iload_n hx hb dX5_weakenedEcho_1 rfl (lv_at hl 1 rfl) ?_
  refine lv_iload_n hx hb dX5_weakenedEcho_2 rfl (lv_at hl 2 rfl) ?_
  refine cr_l (wc := [(h0, .inr (5, [.ref ai, .ref pu, .ref pa, .ref ga, .ref sc, .ref hi, .ref gr, .int (nI me), .int (nI dp), .int (bI up), .int (nI mi), .int (nI ru), .long wp, .long wl])), (ai, .inr (0, [.ref a1])), (a1, .inl (cI, 600, .inl (nA C)))]) (w1 := [(h0, .inr (5, [.ref ai, .ref pu, .ref pa, .ref ga, .ref sc, .ref hi, .ref gr, .int (nI me), .int (nI dp), .int (bI up), .int (nI mi), .int (nI ru), .long wp, .long wl])), (ai, .inr (0, [.ref a1])), (a1, .inl (cI, 600, .inl (nA C)))]) (ws2 := [(h0, .inr (5, [.ref ai, .ref pu, .ref pa, .ref ga, .ref sc, .ref hi, .ref gr, .int (nI me), .int (nI dp), .int (bI up), .int (nI mi), .int (nI ru), .long wp, .long wl])), (ai, .inr (0, [.ref a1])), (a1, .inl (cI, 600, .inl (nA C)))]) hP hD hS hA [0, 1, 2] rfl rfl rfl (va_runV (As := [.int (nI ki), .int (nI ev)]) (rest := []) ⟨hx, hb, hml, hown, hts⟩ (c_X5_echoInBeam l D cI cJ cZ h0 ai pu pa ga sc hi gr me dp up mi ru wp wl a1 C ki ev (by omega) (by omega) (by omega) H.size) (cwV 2 hts gX5_weakenedEcho_X5_echoInBeam rfl rfl rfl (by decide +kernel) ⟨Nat.le_of_ble_eq_true rfl, Nat.le_of_ble_eq_true rfl⟩) (pvV hT hP hD [0, 1, 2] rfl rfl 0 rfl rfl) rfl rfl hl.1 rfl (lv_room (Nat.le_of_ble_eq_true rfl)) dX5_weakenedEcho_3 ⟨Nat.zero_le _, Nat.zero_le _⟩) (fun H locs hP hD hS => ?_)
  refine lv_l2d hx hb dX5_weakenedEcho_6 ?_
  refine lv_dstore_n (lv' := [(3, .double (FP.l2d (eb9 C me ki ev))), (0, .ref h0), (1, .int (nI ki)), (2, .int (nI ev))]) hx hb dX5_weakenedEcho_7 rfl hl (by decide) rfl (fun ls hl => ?_)
  refine lv_iconst (v := nI 0) hx hb dX5_weakenedEcho_8 (by decide) ?_
  refine lv_istore (lv' := [(5, .int (nI 0)), (3, .double (FP.l2d (eb9 C me ki ev))), (0, .ref h0), (1, .int (nI ki)), (2, .int (nI ev))]) hx hb dX5_weakenedEcho_9 hl (by decide) rfl (fun ls hl => ?_)
  have lp11 : ∀ (n a : Nat), a + n = ki → ∀ (H : Heap) (locs : List Loc), va_P D vwCl [(h0, .inr (5, [.ref ai, .ref pu, .ref pa, .ref ga, .ref sc, .ref hi, .ref gr, .int (nI me), .int (nI dp), .int (bI up), .int (nI mi), .int (nI ru), .long wp, .long wl])), (ai, .inr (0, [.ref a1])), (a1, .inl (cI, 600, .inl (nA C)))] H → va_D A [(h0, .inr (5, [.ref ai, .ref pu, .ref pa, .ref ga, .ref sc, .ref hi, .ref gr, .int (nI me), .int (nI dp), .int (bI up), .int (nI mi), .int (nI ru), .long wp, .long wl])), (ai, .inr (0, [.ref a1])), (a1, .inl (cI, 600, .inl (nA C)))] → va_S A s.heap H locs → ∀ (ls : Array Slot), lv_has ls 8 [(0, .ref h0), (1, .int (nI ki)), (2, .int (nI ev)), (3, .double (we9 (fun aa => eb9 C me aa ev) (FP.l2d (eb9 C me ki ev)) a)), (5, .int (nI a))] → W p l e (headSpec wsX5_weakenedEcho ({ frames := 4, cells := 0, slots := 0, locals := 99 } : Room)).room s m args below meth c H locs 0 0 (MQ below (Qd9 D A [(h0, .inr (5, [.ref ai, .ref pu, .ref pa, .ref ga, .ref sc, .ref hi, .ref gr, .int (nI me), .int (nI dp), .int (bI up), .int (nI mi), .int (nI ru), .long wp, .long wl])), (ai, .inr (0, [.ref a1])), (a1, .inl (cI, 600, .inl (nA C)))] (we9 (fun aa => eb9 C me aa ev) (FP.l2d (eb9 C me ki ev)) ki)) args s 0 0 A) (F0 m 11 ls []) := by
    intro n
    induction n with
    | zero =>
      intro a hcnta H locs hP hD hS ls hl
      obtain rfl : ki = a := by omega
      refine lv_iload hx hb dX5_weakenedEcho_11 (lv_at hl 4 rfl) ?_
      refine lv_iload_n hx hb dX5_weakenedEcho_13 rfl (lv_at hl 1 rfl) ?_
      refine ci_ge (tgt := 65) hx hb dX5_weakenedEcho_14 (by decide) (nT (by omega)) (nT (by omega)) (fun c_14 => ?_) (fun c_14 => by omega)
      refine lv_dload_n hx hb dX5_weakenedEcho_65 rfl (lv_at hl 3 rfl) ?_
      exact fin_d hx hb hr hlocks hP hD hS (rfl) dX5_weakenedEcho_66
    | succ n ih =>
      intro a hcnta H locs hP hD hS ls hl
      have hlta : a < ki := by omega
      have hwb := we9_b (f := (fun aa => eb9 C me aa ev)) (l2d_b hE0 hE1) a (by omega)
      refine lv_iload hx hb dX5_weakenedEcho_11 (lv_at hl 4 rfl) ?_
      refine lv_iload_n hx hb dX5_weakenedEcho_13 rfl (lv_at hl 1 rfl) ?_
      refine ci_ge (tgt := 65) hx hb dX5_weakenedEcho_14 (by decide) (nT (by omega)) (nT (by omega)) (fun c_14 => by omega) (fun c_14 => ?_)
      refine lv_aload_n hx hb dX5_weakenedEcho_17 rfl (lv_at hl 0 rfl) ?_
      refine lv_iload hx hb dX5_weakenedEcho_18 (lv_at hl 4 rfl) ?_
      refine lv_iload_n hx hb dX5_weakenedEcho_20 rfl (lv_at hl 2 rfl) ?_
      refine cr_l (wc := [(h0, .inr (5, [.ref ai, .ref pu, .ref pa, .ref ga, .ref sc, .ref hi, .ref gr, .int (nI me), .int (nI dp), .int (bI up), .int (nI mi), .int (nI ru), .long wp, .long wl])), (ai, .inr (0, [.ref a1])), (a1, .inl (cI, 600, .inl (nA C)))]) (w1 := [(h0, .inr (5, [.ref ai, .ref pu, .ref pa, .ref ga, .ref sc, .ref hi, .ref gr, .int (nI me), .int (nI dp), .int (bI up), .int (nI mi), .int (nI ru), .long wp, .long wl])), (ai, .inr (0, [.ref a1])), (a1, .inl (cI, 600, .inl (nA C)))]) (ws2 := [(h0, .inr (5, [.ref ai, .ref pu, .ref pa, .ref ga, .ref sc, .ref hi, .ref gr, .int (nI me), .int (nI dp), .int (bI up), .int (nI mi), .int (nI ru), .long wp, .long wl])), (ai, .inr (0, [.ref a1])), (a1, .inl (cI, 600, .inl (nA C)))]) hP hD hS hA [0, 1, 2] rfl rfl rfl (va_runV (As := [.int (nI a), .int (nI ev)]) (rest := []) ⟨hx, hb, hml, hown, hts⟩ (c_X5_echoInBeam l D cI cJ cZ h0 ai pu pa ga sc hi gr me dp up mi ru wp wl a1 C a ev (by omega) (by omega) (by omega) H.size) (cwV 2 hts gX5_weakenedEcho_X5_echoInBeam rfl rfl rfl (by decide +kernel) ⟨Nat.le_of_ble_eq_true rfl, Nat.le_of_ble_eq_true rfl⟩) (pvV hT hP hD [0, 1, 2] rfl rfl 0 rfl rfl) rfl rfl hl.1 rfl (lv_room (Nat.le_of_ble_eq_true rfl)) dX5_weakenedEcho_21 ⟨Nat.zero_le _, Nat.zero_le _⟩) (fun H locs hP hD hS => ?_)
      refine lv_lstore (lv' := [(6, .long (eb9 C me a ev)), (0, .ref h0), (1, .int (nI ki)), (2, .int (nI ev)), (3, .double (we9 (fun aa => eb9 C me aa ev) (FP.l2d (eb9 C me ki ev)) a)), (5, .int (nI a))]) hx hb dX5_weakenedEcho_24 hl (by decide) rfl (fun ls hl => ?_)
      refine lv_lload hx hb dX5_weakenedEcho_26 (lv_at hl 0 rfl) ?_
      refine lv_ldc2 (v := 1000) hx hb hown hc257 dX5_weakenedEcho_28 ?_
      refine cl_lt (tgt := 44) hx hb dX5_weakenedEcho_31 dX5_weakenedEcho_32 (by decide) (fun c_32 => ?_) (fun c_32 => ?_)
      · have hn1 : ¬ 1000 ≤ eb9 C me a ev := fun z => Int64.lt_irrefl (Int64.lt_of_lt_of_le c_32 z)
        refine lv_lload hx hb dX5_weakenedEcho_44 (lv_at hl 0 rfl) ?_
        refine lv_ldc2 (v := 100) hx hb hown hc261 dX5_weakenedEcho_46 ?_
        refine cl_lt (tgt := 59) hx hb dX5_weakenedEcho_49 dX5_weakenedEcho_50 (by decide) (fun c_50 => ?_) (fun c_50 => ?_)
        · have hn2 : ¬ 100 ≤ eb9 C me a ev := fun z => Int64.lt_irrefl (Int64.lt_of_lt_of_le c_50 z)
          have hws : we9 (fun aa => eb9 C me aa ev) (FP.l2d (eb9 C me ki ev)) (a + 1) = we9 (fun aa => eb9 C me aa ev) (FP.l2d (eb9 C me ki ev)) a := by show (if 1000 ≤ eb9 C me a ev then FP.dmul (we9 (fun aa => eb9 C me aa ev) (FP.l2d (eb9 C me ki ev)) a) 4606281698874543309 else if 100 ≤ eb9 C me a ev then FP.dmul (we9 (fun aa => eb9 C me aa ev) (FP.l2d (eb9 C me ki ev)) a) 4607002274814922588 else we9 (fun aa => eb9 C me aa ev) (FP.l2d (eb9 C me ki ev)) a) = _; rw [if_neg hn1, if_neg hn2]
          refine lv_iinc (v := nI (a + 1)) (lv' := [(5, .int (nI (a + 1))), (6, .long (eb9 C me a ev)), (0, .ref h0), (1, .int (nI ki)), (2, .int (nI ev)), (3, .double (we9 (fun aa => eb9 C me aa ev) (FP.l2d (eb9 C me ki ev)) a))]) hx hb dX5_weakenedEcho_59 hl (k := 5) rfl (n_inc a) (by decide) rfl (fun ls hl => ?_)
          refine lv_goto (tgt := 11) hx hb dX5_weakenedEcho_62 (by decide) ?_
          have hle : ([(0, .ref h0), (1, .int (nI ki)), (2, .int (nI ev)), (3, .double (we9 (fun aa => eb9 C me aa ev) (FP.l2d (eb9 C me ki ev)) (a + 1))), (5, .int (nI (a + 1)))] : List (Nat × Value)) = [(0, .ref h0), (1, .int (nI ki)), (2, .int (nI ev)), (3, .double (we9 (fun aa => eb9 C me aa ev) (FP.l2d (eb9 C me ki ev)) a)), (5, .int (nI (a + 1)))] := (by rw [hws])
          exact ih (a + 1) (by omega) H locs hP hD hS ls (by rw [hle]; exact lv_sub hl [2, 3, 4, 5, 0] rfl)
        · have hn2 : 100 ≤ eb9 C me a ev := Int64.not_lt.mp c_50
          have hws : we9 (fun aa => eb9 C me aa ev) (FP.l2d (eb9 C me ki ev)) (a + 1) = FP.dmul (we9 (fun aa => eb9 C me aa ev) (FP.l2d (eb9 C me ki ev)) a) 4607002274814922588 := by show (if 1000 ≤ eb9 C me a ev then FP.dmul (we9 (fun aa => eb9 C me aa ev) (FP.l2d (eb9 C me ki ev)) a) 4606281698874543309 else if 100 ≤ eb9 C me a ev then FP.dmul (we9 (fun aa => eb9 C me aa ev) (FP.l2d (eb9 C me ki ev)) a) 4607002274814922588 else we9 (fun aa => eb9 C me aa ev) (FP.l2d (eb9 C me ki ev)) a) = _; rw [if_neg hn1, if_pos hn2]
          refine lv_dload_n hx hb dX5_weakenedEcho_53 rfl (lv_at hl 4 rfl) ?_
          refine lv_ldc2d (v := 4607002274814922588) hx hb hown hc263 dX5_weakenedEcho_54 ?_
          refine lv_dmul hx hb dX5_weakenedEcho_57 (f_nn (WB_fin (a := a + 1) (by omega) (WB_98 (by omega) hwb))) ?_
          refine lv_dstore_n (lv' := [(3, .double (FP.dmul (we9 (fun aa => eb9 C me aa ev) (FP.l2d (eb9 C me ki ev)) a) 4607002274814922588)), (6, .long (eb9 C me a ev)), (0, .ref h0), (1, .int (nI ki)), (2, .int (nI ev)), (5, .int (nI a))]) hx hb dX5_weakenedEcho_58 rfl hl (by decide) rfl (fun ls hl => ?_)
          refine lv_iinc (v := nI (a + 1)) (lv' := [(5, .int (nI (a + 1))), (3, .double (FP.dmul (we9 (fun aa => eb9 C me aa ev) (FP.l2d (eb9 C me ki ev)) a) 4607002274814922588)), (6, .long (eb9 C me a ev)), (0, .ref h0), (1, .int (nI ki)), (2, .int (nI ev))]) hx hb dX5_weakenedEcho_59 hl (k := 5) rfl (n_inc a) (by decide) rfl (fun ls hl => ?_)
          refine lv_goto (tgt := 11) hx hb dX5_weakenedEcho_62 (by decide) ?_
          have hle : ([(0, .ref h0), (1, .int (nI ki)), (2, .int (nI ev)), (3, .double (we9 (fun aa => eb9 C me aa ev) (FP.l2d (eb9 C me ki ev)) (a + 1))), (5, .int (nI (a + 1)))] : List (Nat × Value)) = [(0, .ref h0), (1, .int (nI ki)), (2, .int (nI ev)), (3, .double (FP.dmul (we9 (fun aa => eb9 C me aa ev) (FP.l2d (eb9 C me ki ev)) a) 4607002274814922588)), (5, .int (nI (a + 1)))] := (by rw [hws])
          exact ih (a + 1) (by omega) H locs hP hD hS ls (by rw [hle]; exact lv_sub hl [3, 4, 5, 1, 0] rfl)
      · have hn1 : 1000 ≤ eb9 C me a ev := Int64.not_lt.mp c_32
        have hws : we9 (fun aa => eb9 C me aa ev) (FP.l2d (eb9 C me ki ev)) (a + 1) = FP.dmul (we9 (fun aa => eb9 C me aa ev) (FP.l2d (eb9 C me ki ev)) a) 4606281698874543309 := by show (if 1000 ≤ eb9 C me a ev then FP.dmul (we9 (fun aa => eb9 C me aa ev) (FP.l2d (eb9 C me ki ev)) a) 4606281698874543309 else if 100 ≤ eb9 C me a ev then FP.dmul (we9 (fun aa => eb9 C me aa ev) (FP.l2d (eb9 C me ki ev)) a) 4607002274814922588 else we9 (fun aa => eb9 C me aa ev) (FP.l2d (eb9 C me ki ev)) a) = _; rw [if_pos hn1]
        refine lv_dload_n hx hb dX5_weakenedEcho_35 rfl (lv_at hl 4 rfl) ?_
        refine lv_ldc2d (v := 4606281698874543309) hx hb hown hc259 dX5_weakenedEcho_36 ?_
        refine lv_dmul hx hb dX5_weakenedEcho_39 (f_nn (WB_fin (a := a + 1) (by omega) (WB_9 (by omega) hwb))) ?_
        refine lv_dstore_n (lv' := [(3, .double (FP.dmul (we9 (fun aa => eb9 C me aa ev) (FP.l2d (eb9 C me ki ev)) a) 4606281698874543309)), (6, .long (eb9 C me a ev)), (0, .ref h0), (1, .int (nI ki)), (2, .int (nI ev)), (5, .int (nI a))]) hx hb dX5_weakenedEcho_40 rfl hl (by decide) rfl (fun ls hl => ?_)
        refine lv_goto (tgt := 59) hx hb dX5_weakenedEcho_41 (by decide) ?_
        refine lv_iinc (v := nI (a + 1)) (lv' := [(5, .int (nI (a + 1))), (3, .double (FP.dmul (we9 (fun aa => eb9 C me aa ev) (FP.l2d (eb9 C me ki ev)) a) 4606281698874543309)), (6, .long (eb9 C me a ev)), (0, .ref h0), (1, .int (nI ki)), (2, .int (nI ev))]) hx hb dX5_weakenedEcho_59 hl (k := 5) rfl (n_inc a) (by decide) rfl (fun ls hl => ?_)
        refine lv_goto (tgt := 11) hx hb dX5_weakenedEcho_62 (by decide) ?_
        have hle : ([(0, .ref h0), (1, .int (nI ki)), (2, .int (nI ev)), (3, .double (we9 (fun aa => eb9 C me aa ev) (FP.l2d (eb9 C me ki ev)) (a + 1))), (5, .int (nI (a + 1)))] : List (Nat × Value)) = [(0, .ref h0), (1, .int (nI ki)), (2, .int (nI ev)), (3, .double (FP.dmul (we9 (fun aa => eb9 C me aa ev) (FP.l2d (eb9 C me ki ev)) a) 4606281698874543309)), (5, .int (nI (a + 1)))] := (by rw [hws])
        exact ih (a + 1) (by omega) H locs hP hD hS ls (by rw [hle]; exact lv_sub hl [3, 4, 5, 1, 0] rfl)
  have hle : ([(0, .ref h0), (1, .int (nI ki)), (2, .int (nI ev)), (3, .double (we9 (fun aa => eb9 C me aa ev) (FP.l2d (eb9 C me ki ev)) 0)), (5, .int (nI 0))] : List (Nat × Value)) = [(0, .ref h0), (1, .int (nI ki)), (2, .int (nI ev)), (3, .double (FP.l2d (eb9 C me ki ev))), (5, .int (nI 0))] := rfl
  exact lp11 ki 0 (by omega) H locs hP hD hS ls (by rw [hle]; exact lv_sub hl [2, 3, 4, 1, 0] rfl)
set_option maxHeartbeats 4000000 in
set_option maxRecDepth 100000 in
theorem c_X5_seen (l : Launch) (D : va_G) (cI cJ cZ : ClassId) (h0 : Nat) (ai : Nat) (pu : Nat) (pa : Nat) (ga : Nat) (sc : Nat) (hi : Nat) (gr : Nat) (me : Nat) (dp : Nat) (up : Bool) (mi : Nat) (ru : Nat) (wp : Int64) (wl : Int64) (HI : Nat → Nat) (a1 : Nat) (C : Nat → Nat) (ki : Nat) (ev : Nat) (hki : ki < 20) (hev : ev < 4) (hme : me < 10) (hHI : ∀ k, k < 20 → HI k ≤ 9) (hE0 : 0 ≤ (eb9 C me ki ev).toInt) (hE1 : (eb9 C me ki ev).toInt < 268435456) (sz : Nat) : Met l yX5_seen wsX5_seen ({ frames := 5, cells := 0, slots := 0, locals := 126 } : Room) (va_Pc [.ref h0, .int (nI ki), .int (nI ev)] (mPre D cI cJ cZ [(h0, .inr (5, [.ref ai, .ref pu, .ref pa, .ref ga, .ref sc, .ref hi, .ref gr, .int (nI me), .int (nI dp), .int (bI up), .int (nI mi), .int (nI ru), .long wp, .long wl])), (hi, .inl (cI, 20, .inl (nA HI))), (ai, .inr (0, [.ref a1])), (a1, .inl (cI, 600, .inl (nA C)))] sz)) (Ql9 D (va_A [(h0, .inr (5, [.ref ai, .ref pu, .ref pa, .ref ga, .ref sc, .ref hi, .ref gr, .int (nI me), .int (nI dp), .int (bI up), .int (nI mi), .int (nI ru), .long wp, .long wl])), (hi, .inl (cI, 20, .inl (nA HI))), (ai, .inr (0, [.ref a1])), (a1, .inl (cI, 600, .inl (nA C)))] sz) [(h0, .inr (5, [.ref ai, .ref pu, .ref pa, .ref ga, .ref sc, .ref hi, .ref gr, .int (nI me), .int (nI dp), .int (bI up), .int (nI mi), .int (nI ru), .long wp, .long wl])), (hi, .inl (cI, 20, .inl (nA HI))), (ai, .inr (0, [.ref a1])), (a1, .inl (cI, 600, .inl (nA C)))] (if ki < rch HI ev 20 0 then bt9 (we9 (fun aa => eb9 C me aa ev) (FP.l2d (eb9 C me ki ev)) ki) else -1)) 0 0 (va_A [(h0, .inr (5, [.ref ai, .ref pu, .ref pa, .ref ga, .ref sc, .ref hi, .ref gr, .int (nI me), .int (nI dp), .int (bI up), .int (nI mi), .int (nI ru), .long wp, .long wl])), (hi, .inl (cI, 20, .inl (nA HI))), (ai, .inr (0, [.ref a1])), (a1, .inl (cI, 600, .inl (nA C)))] sz) := by
  refine Met.ofW (cc := cX5_seen) (maxL := 3) (ret := (some .long)) (by decide) rfl ?_
  intro p e s m args below meth c s₁ B hml hv
  obtain ⟨hargs, hsz, hP, hT, hD0⟩ := hv
  have hx := B.exec
  have hb := B.bytes
  have hr := B.returns
  have hts := atoms_spec (ws := wsX5_seen) B.pre
  have hown : s.vm.findClass RX5 = some m.cls := findClass_of_methodNamed B.named
  have hlocks := B.notSynchronized
  subst hsz
  have hK := hT.1
  have hD := hD0.self (sz := s.heap.size)
  generalize hAe : va_A [(h0, .inr (5, [.ref ai, .ref pu, .ref pa, .ref ga, .ref sc, .ref hi, .ref gr, .int (nI me), .int (nI dp), .int (bI up), .int (nI mi), .int (nI ru), .long wp, .long wl])), (hi, .inl (cI, 20, .inl (nA HI))), (ai, .inr (0, [.ref a1])), (a1, .inl (cI, 600, .inl (nA C)))] s.heap.size = A at hD ⊢
  have hA : ∀ q : Nat, s.heap.size ≤ q → A q := fun q h => by rw [← hAe]; exact Or.inr h
  have hS : va_S A s.heap s.heap [] := va_S.rf
  obtain ⟨H, hHe⟩ : ∃ H : Heap, H = s.heap := ⟨_, rfl⟩
  have hS : va_S A s.heap H [] := by rw [hHe]; exact va_S.rf
  rw [← hHe] at hP
  suffices K0 : W p l e (headSpec wsX5_seen ({ frames := 5, cells := 0, slots := 0, locals := 126 } : Room)).room s m args below meth c H [] 0 0 (MQ below (Ql9 D A [(h0, .inr (5, [.ref ai, .ref pu, .ref pa, .ref ga, .ref sc, .ref hi, .ref gr, .int (nI me), .int (nI dp), .int (bI up), .int (nI mi), .int (nI ru), .long wp, .long wl])), (hi, .inl (cI, 20, .inl (nA HI))), (ai, .inr (0, [.ref a1])), (a1, .inl (cI, 600, .inl (nA C)))] (if ki < rch HI ev 20 0 then bt9 (we9 (fun aa => eb9 C me aa ev) (FP.l2d (eb9 C me ki ev)) ki) else -1)) args s 0 0 A) (entryFrame m args 3) by rw [hHe] at K0; exact K0
  refine W.eq (g2 := entryFrame m ([.ref h0, .int (nI ki), .int (nI ev)] : List Value).toArray 3) (by rw [hargs]) ?_
  have hl := lv_entry ([.ref h0, .int (nI ki), .int (nI ev)]) (n := 3) (Nat.le_of_ble_eq_true rfl)
  rw [lg_entry_eq]
  generalize (lg_sl ([.ref h0, .int (nI ki), .int (nI ev)]) ++ List.replicate (3 - (lg_sl ([.ref h0, .int (nI ki), .int (nI ev)])).length) Slot.unset).toArray = ls at hl ⊢
  have hl : lv_has ls 3 [(0, .ref h0), (1, .int (nI ki)), (2, .int (nI ev))] := hl
  generalize ([] : List Loc) = locs at hS ⊢
  have hc156 := hts (.constantLong RX5 156 (-1)) (by decide +kernel)
  refine lv_iload_n hx hb dX5_seen_0 rfl (lv_at hl 1 rfl) ?_
  refine cr_v (wc := []) (w1 := []) (ws2 := [(h0, .inr (5, [.ref ai, .ref pu, .ref pa, .ref ga, .ref sc, .ref hi, .ref gr, .int (nI me), .int (nI dp), .int (bI up), .int (nI mi), .int (nI ru), .long wp, .long wl])), (hi, .inl (cI, 20, .inl (nA HI))), (ai, .inr (0, [.ref a1])), (a1, .inl (cI, 600, .inl (nA C)))]) hP hD hS hA [] rfl rfl rfl (va_runS (As := [.int (nI ki)]) (rest := []) ⟨hx, hb, hml, hown, hts⟩ (c_X5_requireKilometre l D cI cJ cZ ki (by omega) H.size) (va_cwS 1 hts gX5_seen_X5_requireKilometre rfl rfl rfl (by decide +kernel) ⟨Nat.le_of_ble_eq_true rfl, Nat.le_of_ble_eq_true rfl⟩) (pvS hT hP hD [] rfl rfl) rfl rfl hl.1 rfl (lv_room (Nat.le_of_ble_eq_true rfl)) dX5_seen_1 ⟨Nat.zero_le _, Nat.zero_le _⟩) (fun H locs hP hD hS => ?_)
  refine lv_iload_n hx hb dX5_seen_4 rfl (lv_at hl 2 rfl) ?_
  refine lv_iconst (v := nI 0) hx hb dX5_seen_5 (by decide) ?_
  refine lv_iconst (v := nI 3) hx hb dX5_seen_6 (by decide) ?_
  refine cr_v (wc := []) (w1 := []) (ws2 := [(h0, .inr (5, [.ref ai, .ref pu, .ref pa, .ref ga, .ref sc, .ref hi, .ref gr, .int (nI me), .int (nI dp), .int (bI up), .int (nI mi), .int (nI ru), .long wp, .long wl])), (hi, .inl (cI, 20, .inl (nA HI))), (ai, .inr (0, [.ref a1])), (a1, .inl (cI, 600, .inl (nA C)))]) hP hD hS hA [] rfl rfl rfl (va_runS (As := [.int (nI ev), .int (nI 0), .int (nI 3)]) (rest := []) ⟨hx, hb, hml, hown, hts⟩ (c_X5_requireRange l D cI cJ cZ ev 0 3 (by omega) (by omega) (by omega) H.size) (va_cwS 3 hts gX5_seen_X5_requireRange rfl rfl rfl (by decide +kernel) ⟨Nat.le_of_ble_eq_true rfl, Nat.le_of_ble_eq_true rfl⟩) (pvS hT hP hD [] rfl rfl) rfl rfl hl.1 rfl (lv_room (Nat.le_of_ble_eq_true rfl)) dX5_seen_7 ⟨Nat.zero_le _, Nat.zero_le _⟩) (fun H locs hP hD hS => ?_)
  refine lv_iload_n hx hb dX5_seen_10 rfl (lv_at hl 1 rfl) ?_
  refine lv_aload_n hx hb dX5_seen_11 rfl (lv_at hl 0 rfl) ?_
  refine lv_iload_n hx hb dX5_seen_12 rfl (lv_at hl 2 rfl) ?_
  refine cr_i (wc := [(h0, .inr (5, [.ref ai, .ref pu, .ref pa, .ref ga, .ref sc, .ref hi, .ref gr, .int (nI me), .int (nI dp), .int (bI up), .int (nI mi), .int (nI ru), .long wp, .long wl])), (hi, .inl (cI, 20, .inl (nA HI)))]) (w1 := [(h0, .inr (5, [.ref ai, .ref pu, .ref pa, .ref ga, .ref sc, .ref hi, .ref gr, .int (nI me), .int (nI dp), .int (bI up), .int (nI mi), .int (nI ru), .long wp, .long wl])), (hi, .inl (cI, 20, .inl (nA HI)))]) (ws2 := [(h0, .inr (5, [.ref ai, .ref pu, .ref pa, .ref ga, .ref sc, .ref hi, .ref gr, .int (nI me), .int (nI dp), .int (bI up), .int (nI mi), .int (nI ru), .long wp, .long wl])), (hi, .inl (cI, 20, .inl (nA HI))), (ai, .inr (0, [.ref a1])), (a1, .inl (cI, 600, .inl (nA C)))]) hP hD hS hA [0, 1] rfl rfl rfl (va_runV (As := [.int (nI ev)]) (rest := [.int (nI ki)]) ⟨hx, hb, hml, hown, hts⟩ (c_X5_reachOf l D cI cJ cZ h0 ai pu pa ga sc hi gr me dp up mi ru wp wl HI ev (by omega) hHI H.size) (cwV 1 hts gX5_seen_X5_reachOf rfl rfl rfl (by decide +kernel) ⟨Nat.le_of_ble_eq_true rfl, Nat.le_of_ble_eq_true rfl⟩) (pvV hT hP hD [0, 1] rfl rfl 0 rfl rfl) rfl rfl hl.1 rfl (lv_room (Nat.le_of_ble_eq_true rfl)) dX5_seen_13 ⟨Nat.zero_le _, Nat.zero_le _⟩) (fun H locs hP hD hS => ?_)
  have hrc := rch_le HI ev 20 0
  refine ci_ge (tgt := 31) hx hb dX5_seen_16 (by decide) (nT (by omega)) (nT (by omega)) (fun c_16 => ?_) (fun c_16 => ?_)
  · refine lv_ldc2 (v := -1) hx hb hown hc156 dX5_seen_31 ?_
    exact fin_l hx hb hr hlocks hP hD hS ((by first | rw [if_pos (by omega)] | rw [if_neg (by omega)])) dX5_seen_34
  · refine lv_aload_n hx hb dX5_seen_19 rfl (lv_at hl 0 rfl) ?_
    refine lv_iload_n hx hb dX5_seen_20 rfl (lv_at hl 1 rfl) ?_
    refine lv_iload_n hx hb dX5_seen_21 rfl (lv_at hl 2 rfl) ?_
    refine cr_d (wc := [(h0, .inr (5, [.ref ai, .ref pu, .ref pa, .ref ga, .ref sc, .ref hi, .ref gr, .int (nI me), .int (nI dp), .int (bI up), .int (nI mi), .int (nI ru), .long wp, .long wl])), (ai, .inr (0, [.ref a1])), (a1, .inl (cI, 600, .inl (nA C)))]) (w1 := [(h0, .inr (5, [.ref ai, .ref pu, .ref pa, .ref ga, .ref sc, .ref hi, .ref gr, .int (nI me), .int (nI dp), .int (bI up), .int (nI mi), .int (nI ru), .long wp, .long wl])), (ai, .inr (0, [.ref a1])), (a1, .inl (cI, 600, .inl (nA C)))]) (ws2 := [(h0, .inr (5, [.ref ai, .ref pu, .ref pa, .ref ga, .ref sc, .ref hi, .ref gr, .int (nI me), .int (nI dp), .int (bI up), .int (nI mi), .int (nI ru), .long wp, .long wl])), (hi, .inl (cI, 20, .inl (nA HI))), (ai, .inr (0, [.ref a1])), (a1, .inl (cI, 600, .inl (nA C)))]) hP hD hS hA [0, 2, 3] rfl rfl rfl (va_runV (As := [.int (nI ki), .int (nI ev)]) (rest := []) ⟨hx, hb, hml, hown, hts⟩ (c_X5_weakenedEcho l D cI cJ cZ h0 ai pu pa ga sc hi gr me dp up mi ru wp wl a1 C ki ev (by omega) (by omega) (by omega) (by omega) (by omega) H.size) (cwV 2 hts gX5_seen_X5_weakenedEcho rfl rfl rfl (by decide +kernel) ⟨Nat.le_of_ble_eq_true rfl, Nat.le_of_ble_eq_true rfl⟩) (pvV hT hP hD [0, 2, 3] rfl rfl 0 rfl rfl) rfl rfl hl.1 rfl (lv_room (Nat.le_of_ble_eq_true rfl)) dX5_seen_22 ⟨Nat.zero_le _, Nat.zero_le _⟩) (fun H locs hP hD hS => ?_)
    refine cr_l (wc := []) (w1 := []) (ws2 := [(h0, .inr (5, [.ref ai, .ref pu, .ref pa, .ref ga, .ref sc, .ref hi, .ref gr, .int (nI me), .int (nI dp), .int (bI up), .int (nI mi), .int (nI ru), .long wp, .long wl])), (hi, .inl (cI, 20, .inl (nA HI))), (ai, .inr (0, [.ref a1])), (a1, .inl (cI, 600, .inl (nA C)))]) hP hD hS hA [] rfl rfl rfl (va_runS (As := [.double (we9 (fun aa => eb9 C me aa ev) (FP.l2d (eb9 C me ki ev)) ki)]) (rest := []) ⟨hx, hb, hml, hown, hts⟩ (c_X5_bitsOf l D cI cJ cZ (we9 (fun aa => eb9 C me aa ev) (FP.l2d (eb9 C me ki ev)) ki) (WB_PD (a := ki) (by omega) (we9_b (f := (fun aa => eb9 C me aa ev)) (l2d_b hE0 hE1) ki (by omega))) H.size) (va_cwS 1 hts gX5_seen_X5_bitsOf rfl rfl rfl (by decide +kernel) ⟨Nat.le_of_ble_eq_true rfl, Nat.le_of_ble_eq_true rfl⟩) (pvS hT hP hD [] rfl rfl) rfl rfl hl.1 rfl (lv_room (Nat.le_of_ble_eq_true rfl)) dX5_seen_25 ⟨Nat.zero_le _, Nat.zero_le _⟩) (fun H locs hP hD hS => ?_)
    refine lv_goto (tgt := 34) hx hb dX5_seen_28 (by decide) ?_
    exact fin_l hx hb hr hlocks hP hD hS ((by first | rw [if_pos (by omega)] | rw [if_neg (by omega)])) dX5_seen_34
set_option maxHeartbeats 4000000 in
set_option maxRecDepth 100000 in
theorem c_X6_seen (l : Launch) (D : va_G) (cI cJ cZ : ClassId) (h0 : Nat) (thr : Nat) (mi : Nat) (me : Nat) (dp : Nat) (up : Bool) (dn : Nat) (ma : Nat) (mx : Nat) (mh : Nat) (mg : Nat) (mc : Nat) (mo : Nat) (mr : Nat) (mf : Nat) (mk : Nat) (ml : Nat) (wp : Int64) (wl : Int64) (ru : Nat) (sm : Nat) (HI : Nat → Nat) (C : Nat → Nat) (ki : Nat) (ev : Nat) (hki : ki < 20) (hev : ev < 4) (hme : me < 10) (hHI : ∀ k, k < 20 → HI k ≤ 9) (hE0 : 0 ≤ (em9 C me ki ev).toInt) (hE1 : (em9 C me ki ev).toInt < 268435456) (sz : Nat) : Met l yX6_seen wsX6_seen ({ frames := 2, cells := 0, slots := 0, locals := 48 } : Room) (va_Pc [.ref h0, .int (nI ki), .int (nI ev)] (mPre D cI cJ cZ [(h0, .inr (6, [.int (nI thr), .int (nI mi), .int (nI me), .int (nI dp), .int (bI up), .int (nI dn), .ref ma, .ref mx, .ref mh, .ref mg, .ref mc, .ref mo, .ref mr, .ref mf, .long wp, .long wl, .int (nI ru), .int (nI sm), .ref mk, .ref ml])), (mh, .inl (cI, 20, .inl (nA HI))), (ma, .inl (cI, 600, .inl (nA C)))] sz)) (Ql9 D (va_A [(h0, .inr (6, [.int (nI thr), .int (nI mi), .int (nI me), .int (nI dp), .int (bI up), .int (nI dn), .ref ma, .ref mx, .ref mh, .ref mg, .ref mc, .ref mo, .ref mr, .ref mf, .long wp, .long wl, .int (nI ru), .int (nI sm), .ref mk, .ref ml])), (mh, .inl (cI, 20, .inl (nA HI))), (ma, .inl (cI, 600, .inl (nA C)))] sz) [(h0, .inr (6, [.int (nI 0), .int (nI mi), .int (nI me), .int (nI dp), .int (bI up), .int (nI dn), .ref ma, .ref mx, .ref mh, .ref mg, .ref mc, .ref mo, .ref mr, .ref mf, .long wp, .long wl, .int (nI ru), .int (nI sm), .ref mk, .ref ml])), (mh, .inl (cI, 20, .inl (nA HI))), (ma, .inl (cI, 600, .inl (nA C)))] (if blk HI ev (ki + 1) = true then -1 else bt9 (we9 (fun aa => em9 C me aa ev) (FP.l2d (em9 C me ki ev)) ki))) 0 0 (va_A [(h0, .inr (6, [.int (nI thr), .int (nI mi), .int (nI me), .int (nI dp), .int (bI up), .int (nI dn), .ref ma, .ref mx, .ref mh, .ref mg, .ref mc, .ref mo, .ref mr, .ref mf, .long wp, .long wl, .int (nI ru), .int (nI sm), .ref mk, .ref ml])), (mh, .inl (cI, 20, .inl (nA HI))), (ma, .inl (cI, 600, .inl (nA C)))] sz) := by
  refine Met.ofW (cc := cX6_seen) (maxL := 9) (ret := (some .long)) (by decide) rfl ?_
  intro p e s m args below meth c s₁ B hml hv
  obtain ⟨hargs, hsz, hP, hT, hD0⟩ := hv
  have hx := B.exec
  have hb := B.bytes
  have hr := B.returns
  have hts := atoms_spec (ws := wsX6_seen) B.pre
  have hown : s.vm.findClass RX6 = some m.cls := findClass_of_methodNamed B.named
  have hlocks := B.notSynchronized
  subst hsz
  have hK := hT.1
  have hD := hD0.self (sz := s.heap.size)
  generalize hAe : va_A [(h0, .inr (6, [.int (nI thr), .int (nI mi), .int (nI me), .int (nI dp), .int (bI up), .int (nI dn), .ref ma, .ref mx, .ref mh, .ref mg, .ref mc, .ref mo, .ref mr, .ref mf, .long wp, .long wl, .int (nI ru), .int (nI sm), .ref mk, .ref ml])), (mh, .inl (cI, 20, .inl (nA HI))), (ma, .inl (cI, 600, .inl (nA C)))] s.heap.size = A at hD ⊢
  have hA : ∀ q : Nat, s.heap.size ≤ q → A q := fun q h => by rw [← hAe]; exact Or.inr h
  have hS : va_S A s.heap s.heap [] := va_S.rf
  obtain ⟨H, hHe⟩ : ∃ H : Heap, H = s.heap := ⟨_, rfl⟩
  have hS : va_S A s.heap H [] := by rw [hHe]; exact va_S.rf
  rw [← hHe] at hP
  suffices K0 : W p l e (headSpec wsX6_seen ({ frames := 2, cells := 0, slots := 0, locals := 48 } : Room)).room s m args below meth c H [] 0 0 (MQ below (Ql9 D A [(h0, .inr (6, [.int (nI 0), .int (nI mi), .int (nI me), .int (nI dp), .int (bI up), .int (nI dn), .ref ma, .ref mx, .ref mh, .ref mg, .ref mc, .ref mo, .ref mr, .ref mf, .long wp, .long wl, .int (nI ru), .int (nI sm), .ref mk, .ref ml])), (mh, .inl (cI, 20, .inl (nA HI))), (ma, .inl (cI, 600, .inl (nA C)))] (if blk HI ev (ki + 1) = true then -1 else bt9 (we9 (fun aa => em9 C me aa ev) (FP.l2d (em9 C me ki ev)) ki))) args s 0 0 A) (entryFrame m args 9) by rw [hHe] at K0; exact K0
  refine W.eq (g2 := entryFrame m ([.ref h0, .int (nI ki), .int (nI ev)] : List Value).toArray 9) (by rw [hargs]) ?_
  have hl := lv_entry ([.ref h0, .int (nI ki), .int (nI ev)]) (n := 9) (Nat.le_of_ble_eq_true rfl)
  rw [lg_entry_eq]
  generalize (lg_sl ([.ref h0, .int (nI ki), .int (nI ev)]) ++ List.replicate (9 - (lg_sl ([.ref h0, .int (nI ki), .int (nI ev)])).length) Slot.unset).toArray = ls at hl ⊢
  have hl : lv_has ls 9 [(0, .ref h0), (1, .int (nI ki)), (2, .int (nI ev))] := hl
  generalize ([] : List Loc) = locs at hS ⊢
  have hc139 := hts (.constantLong RX6 139 (1000)) (by decide +kernel)
  have hc143 := hts (.constantLong RX6 143 (100)) (by decide +kernel)
  have hc145 := hts (.constantDouble RX6 145 (4607002274814922588)) (by decide +kernel)
  have hc141 := hts (.constantDouble RX6 141 (4606281698874543309)) (by decide +kernel)
  have hc133 := hts (.constantLong RX6 133 (-1)) (by decide +kernel)
  refine lv_iload_n hx hb dX6_seen_0 rfl (lv_at hl 1 rfl) ?_
  refine cr_i (wc := []) (w1 := []) (ws2 := [(h0, .inr (6, [.int (nI thr), .int (nI mi), .int (nI me), .int (nI dp), .int (bI up), .int (nI dn), .ref ma, .ref mx, .ref mh, .ref mg, .ref mc, .ref mo, .ref mr, .ref mf, .long wp, .long wl, .int (nI ru), .int (nI sm), .ref mk, .ref ml])), (mh, .inl (cI, 20, .inl (nA HI))), (ma, .inl (cI, 600, .inl (nA C)))]) hP hD hS hA [] rfl rfl rfl (va_runS (As := [.int (nI ki)]) (rest := []) ⟨hx, hb, hml, hown, hts⟩ (c_X6_isPlace_T l D cI cJ cZ ki (by omega) H.size) (va_cwS 1 hts gX6_seen_X6_isPlace rfl rfl rfl (by decide +kernel) ⟨Nat.le_of_ble_eq_true rfl, Nat.le_of_ble_eq_true rfl⟩) (pvS hT hP hD [] rfl rfl) rfl rfl hl.1 rfl (lv_room (Nat.le_of_ble_eq_true rfl)) dX6_seen_1 ⟨Nat.zero_le _, Nat.zero_le _⟩) (fun H locs hP hD hS => ?_)
  refine lv_istore_n (lv' := [(3, .int (bI true)), (0, .ref h0), (1, .int (nI ki)), (2, .int (nI ev))]) hx hb dX6_seen_4 rfl hl (by decide) rfl (fun ls hl => ?_)
  refine lv_aload_n hx hb dX6_seen_5 rfl (lv_at hl 1 rfl) ?_
  refine lv_iload_n hx hb dX6_seen_6 rfl (lv_at hl 0 rfl) ?_
  refine cb_ne (tgt := 14) hx hb dX6_seen_7 (by decide) (fun c_7 => ?_) (fun c_7 => absurd c_7 (by decide))
  refine lv_iload_n hx hb dX6_seen_14 rfl (lv_at hl 3 rfl) ?_
  refine cr_i (wc := []) (w1 := []) (ws2 := [(h0, .inr (6, [.int (nI thr), .int (nI mi), .int (nI me), .int (nI dp), .int (bI up), .int (nI dn), .ref ma, .ref mx, .ref mh, .ref mg, .ref mc, .ref mo, .ref mr, .ref mf, .long wp, .long wl, .int (nI ru), .int (nI sm), .ref mk, .ref ml])), (mh, .inl (cI, 20, .inl (nA HI))), (ma, .inl (cI, 600, .inl (nA C)))]) hP hD hS hA [] rfl rfl rfl (va_runS (As := [.int (nI ev)]) (rest := [.ref h0]) ⟨hx, hb, hml, hown, hts⟩ (c_X6_isElevation_T l D cI cJ cZ ev (by omega) H.size) (va_cwS 1 hts gX6_seen_X6_isElevation rfl rfl rfl (by decide +kernel) ⟨Nat.le_of_ble_eq_true rfl, Nat.le_of_ble_eq_true rfl⟩) (pvS hT hP hD [] rfl rfl) rfl rfl hl.1 rfl (lv_room (Nat.le_of_ble_eq_true rfl)) dX6_seen_15 ⟨Nat.zero_le _, Nat.zero_le _⟩) (fun H locs hP hD hS => ?_)
  refine cb_eq (tgt := 25) hx hb dX6_seen_18 (by decide) (fun c_18 => absurd c_18 (by decide)) (fun c_18 => ?_)
  refine lv_iconst (v := nI 0) hx hb dX6_seen_21 (by decide) ?_
  refine lv_goto (tgt := 26) hx hb dX6_seen_22 (by decide) ?_
  refine cr_i (wc := [(h0, .inr (6, [.int (nI thr), .int (nI mi), .int (nI me), .int (nI dp), .int (bI up), .int (nI dn), .ref ma, .ref mx, .ref mh, .ref mg, .ref mc, .ref mo, .ref mr, .ref mf, .long wp, .long wl, .int (nI ru), .int (nI sm), .ref mk, .ref ml]))]) (w1 := [(h0, .inr (6, [.int (nI 0), .int (nI mi), .int (nI me), .int (nI dp), .int (bI up), .int (nI dn), .ref ma, .ref mx, .ref mh, .ref mg, .ref mc, .ref mo, .ref mr, .ref mf, .long wp, .long wl, .int (nI ru), .int (nI sm), .ref mk, .ref ml]))]) (ws2 := [(h0, .inr (6, [.int (nI 0), .int (nI mi), .int (nI me), .int (nI dp), .int (bI up), .int (nI dn), .ref ma, .ref mx, .ref mh, .ref mg, .ref mc, .ref mo, .ref mr, .ref mf, .long wp, .long wl, .int (nI ru), .int (nI sm), .ref mk, .ref ml])), (mh, .inl (cI, 20, .inl (nA HI))), (ma, .inl (cI, 600, .inl (nA C)))]) hP hD hS hA [0] rfl rfl rfl (va_runV (As := [.int (nI 0)]) (rest := []) ⟨hx, hb, hml, hown, hts⟩ (c_X6_goesWell_ok l D cI cJ cZ h0 thr mi me dp up dn ma mx mh mg mc mo mr mf mk ml wp wl ru sm H.size) (cwV 1 hts gX6_seen_X6_goesWell rfl rfl rfl (by decide +kernel) ⟨Nat.le_of_ble_eq_true rfl, Nat.le_of_ble_eq_true rfl⟩) (pvV hT hP hD [0] rfl rfl 0 rfl rfl) rfl rfl hl.1 rfl (lv_room (Nat.le_of_ble_eq_true rfl)) dX6_seen_26 ⟨Nat.zero_le _, Nat.zero_le _⟩) (fun H locs hP hD hS => ?_)
  refine cb_ne (tgt := 34) hx hb dX6_seen_29 (by decide) (fun c_29 => ?_) (fun c_29 => absurd c_29 (by decide))
  refine lv_aload_n hx hb dX6_seen_34 rfl (lv_at hl 1 rfl) ?_
  refine lv_iload_n hx hb dX6_seen_35 rfl (lv_at hl 2 rfl) ?_
  refine lv_iload_n hx hb dX6_seen_36 rfl (lv_at hl 3 rfl) ?_
  refine cr_i (wc := [(h0, .inr (6, [.int (nI 0), .int (nI mi), .int (nI me), .int (nI dp), .int (bI up), .int (nI dn), .ref ma, .ref mx, .ref mh, .ref mg, .ref mc, .ref mo, .ref mr, .ref mf, .long wp, .long wl, .int (nI ru), .int (nI sm), .ref mk, .ref ml])), (mh, .inl (cI, 20, .inl (nA HI)))]) (w1 := [(h0, .inr (6, [.int (nI 0), .int (nI mi), .int (nI me), .int (nI dp), .int (bI up), .int (nI dn), .ref ma, .ref mx, .ref mh, .ref mg, .ref mc, .ref mo, .ref mr, .ref mf, .long wp, .long wl, .int (nI ru), .int (nI sm), .ref mk, .ref ml])), (mh, .inl (cI, 20, .inl (nA HI)))]) (ws2 := [(h0, .inr (6, [.int (nI 0), .int (nI mi), .int (nI me), .int (nI dp), .int (bI up), .int (nI dn), .ref ma, .ref mx, .ref mh, .ref mg, .ref mc, .ref mo, .ref mr, .ref mf, .long wp, .long wl, .int (nI ru), .int (nI sm), .ref mk, .ref ml])), (mh, .inl (cI, 20, .inl (nA HI))), (ma, .inl (cI, 600, .inl (nA C)))]) hP hD hS hA [0, 1] rfl rfl rfl (va_runV (As := [.int (nI ki), .int (nI ev)]) (rest := []) ⟨hx, hb, hml, hown, hts⟩ (c_X6_isBlocked l D cI cJ cZ h0 0 mi me dp up dn ma mx mh mg mc mo mr mf mk ml wp wl ru sm HI ki ev (by omega) (by omega) hHI H.size) (cwV 2 hts gX6_seen_X6_isBlocked rfl rfl rfl (by decide +kernel) ⟨Nat.le_of_ble_eq_true rfl, Nat.le_of_ble_eq_true rfl⟩) (pvV hT hP hD [0, 1] rfl rfl 0 rfl rfl) rfl rfl hl.1 rfl (lv_room (Nat.le_of_ble_eq_true rfl)) dX6_seen_37 ⟨Nat.zero_le _, Nat.zero_le _⟩) (fun H locs hP hD hS => ?_)
  refine cb_eq (tgt := 47) hx hb dX6_seen_40 (by decide) (fun c_40 => ?_) (fun c_40 => ?_)
  · refine lv_aload_n hx hb dX6_seen_47 rfl (lv_at hl 1 rfl) ?_
    refine lv_iload_n hx hb dX6_seen_48 rfl (lv_at hl 2 rfl) ?_
    refine lv_iload_n hx hb dX6_seen_49 rfl (lv_at hl 3 rfl) ?_
    refine cr_l (wc := [(h0, .inr (6, [.int (nI 0), .int (nI mi), .int (nI me), .int (nI dp), .int (bI up), .int (nI dn), .ref ma, .ref mx, .ref mh, .ref mg, .ref mc, .ref mo, .ref mr, .ref mf, .long wp, .long wl, .int (nI ru), .int (nI sm), .ref mk, .ref ml])), (ma, .inl (cI, 600, .inl (nA C)))]) (w1 := [(h0, .inr (6, [.int (nI 0), .int (nI mi), .int (nI me), .int (nI dp), .int (bI up), .int (nI dn), .ref ma, .ref mx, .ref mh, .ref mg, .ref mc, .ref mo, .ref mr, .ref mf, .long wp, .long wl, .int (nI ru), .int (nI sm), .ref mk, .ref ml])), (ma, .inl (cI, 600, .inl (nA C)))]) (ws2 := [(h0, .inr (6, [.int (nI 0), .int (nI mi), .int (nI me), .int (nI dp), .int (bI up), .int (nI dn), .ref ma, .ref mx, .ref mh, .ref mg, .ref mc, .ref mo, .ref mr, .ref mf, .long wp, .long wl, .int (nI ru), .int (nI sm), .ref mk, .ref ml])), (mh, .inl (cI, 20, .inl (nA HI))), (ma, .inl (cI, 600, .inl (nA C)))]) hP hD hS hA [0, 2] rfl rfl rfl (va_runV (As := [.int (nI ki), .int (nI ev)]) (rest := []) ⟨hx, hb, hml, hown, hts⟩ (c_X6_echoOf l D cI cJ cZ h0 0 mi me dp up dn ma mx mh mg mc mo mr mf mk ml wp wl ru sm C ki ev (by omega) (by omega) (by omega) H.size) (cwV 2 hts gX6_seen_X6_echoOf rfl rfl rfl (by decide +kernel) ⟨Nat.le_of_ble_eq_true rfl, Nat.le_of_ble_eq_true rfl⟩) (pvV hT hP hD [0, 2] rfl rfl 0 rfl rfl) rfl rfl hl.1 rfl (lv_room (Nat.le_of_ble_eq_true rfl)) dX6_seen_50 ⟨Nat.zero_le _, Nat.zero_le _⟩) (fun H locs hP hD hS => ?_)
    refine lv_l2d hx hb dX6_seen_53 ?_
    refine lv_dstore (lv' := [(4, .double (FP.l2d (em9 C me ki ev))), (3, .int (bI true)), (0, .ref h0), (1, .int (nI ki)), (2, .int (nI ev))]) hx hb dX6_seen_54 hl (by decide) rfl (fun ls hl => ?_)
    refine lv_iconst (v := nI 0) hx hb dX6_seen_56 (by decide) ?_
    refine lv_istore (lv' := [(6, .int (nI 0)), (4, .double (FP.l2d (em9 C me ki ev))), (3, .int (bI true)), (0, .ref h0), (1, .int (nI ki)), (2, .int (nI ev))]) hx hb dX6_seen_57 hl (by decide) rfl (fun ls hl => ?_)
    have lp59 : ∀ (n a : Nat), a + n = ki → ∀ (H : Heap) (locs : List Loc), va_P D vwCl [(h0, .inr (6, [.int (nI 0), .int (nI mi), .int (nI me), .int (nI dp), .int (bI up), .int (nI dn), .ref ma, .ref mx, .ref mh, .ref mg, .ref mc, .ref mo, .ref mr, .ref mf, .long wp, .long wl, .int (nI ru), .int (nI sm), .ref mk, .ref ml])), (mh, .inl (cI, 20, .inl (nA HI))), (ma, .inl (cI, 600, .inl (nA C)))] H → va_D A [(h0, .inr (6, [.int (nI 0), .int (nI mi), .int (nI me), .int (nI dp), .int (bI up), .int (nI dn), .ref ma, .ref mx, .ref mh, .ref mg, .ref mc, .ref mo, .ref mr, .ref mf, .long wp, .long wl, .int (nI ru), .int (nI sm), .ref mk, .ref ml])), (mh, .inl (cI, 20, .inl (nA HI))), (ma, .inl (cI, 600, .inl (nA C)))] → va_S A s.heap H locs → ∀ (ls : Array Slot), lv_has ls 9 [(0, .ref h0), (1, .int (nI ki)), (2, .int (nI ev)), (4, .double (we9 (fun aa => em9 C me aa ev) (FP.l2d (em9 C me ki ev)) a)), (6, .int (nI a))] → W p l e (headSpec wsX6_seen ({ frames := 2, cells := 0, slots := 0, locals := 48 } : Room)).room s m args below meth c H locs 0 0 (MQ below (Ql9 D A [(h0, .inr (6, [.int (nI 0), .int (nI mi), .int (nI me), .int (nI dp), .int (bI up), .int (nI dn), .ref ma, .ref mx, .ref mh, .ref mg, .ref mc, .ref mo, .ref mr, .ref mf, .long wp, .long wl, .int (nI ru), .int (nI sm), .ref mk, .ref ml])), (mh, .inl (cI, 20, .inl (nA HI))), (ma, .inl (cI, 600, .inl (nA C)))] (if blk HI ev (ki + 1) = true then -1 else bt9 (we9 (fun aa => em9 C me aa ev) (FP.l2d (em9 C me ki ev)) ki))) args s 0 0 A) (F0 m 59 ls []) := by
      intro n
      induction n with
      | zero =>
        intro a hcnta H locs hP hD hS ls hl
        obtain rfl : ki = a := by omega
        refine lv_iload hx hb dX6_seen_59 (lv_at hl 4 rfl) ?_
        refine lv_iload_n hx hb dX6_seen_61 rfl (lv_at hl 1 rfl) ?_
        refine ci_ge (tgt := 120) hx hb dX6_seen_62 (by decide) (nT (by omega)) (nT (by omega)) (fun c_62 => ?_) (fun c_62 => by omega)
        refine lv_dload hx hb dX6_seen_120 (lv_at hl 3 rfl) ?_
        refine cr_l (wc := []) (w1 := []) (ws2 := [(h0, .inr (6, [.int (nI 0), .int (nI mi), .int (nI me), .int (nI dp), .int (bI up), .int (nI dn), .ref ma, .ref mx, .ref mh, .ref mg, .ref mc, .ref mo, .ref mr, .ref mf, .long wp, .long wl, .int (nI ru), .int (nI sm), .ref mk, .ref ml])), (mh, .inl (cI, 20, .inl (nA HI))), (ma, .inl (cI, 600, .inl (nA C)))]) hP hD hS hA [] rfl rfl rfl (va_runS (As := [.double (we9 (fun aa => em9 C me aa ev) (FP.l2d (em9 C me ki ev)) ki)]) (rest := []) ⟨hx, hb, hml, hown, hts⟩ (c_X6_bits l D cI cJ cZ (we9 (fun aa => em9 C me aa ev) (FP.l2d (em9 C me ki ev)) ki) (WB_PD (a := ki) (by omega) (we9_b (f := (fun aa => em9 C me aa ev)) (l2d_b hE0 hE1) ki (by omega))) H.size) (va_cwS 1 hts gX6_seen_X6_bits rfl rfl rfl (by decide +kernel) ⟨Nat.le_of_ble_eq_true rfl, Nat.le_of_ble_eq_true rfl⟩) (pvS hT hP hD [] rfl rfl) rfl rfl hl.1 rfl (lv_room (Nat.le_of_ble_eq_true rfl)) dX6_seen_122 ⟨Nat.zero_le _, Nat.zero_le _⟩) (fun H locs hP hD hS => ?_)
        exact fin_l hx hb hr hlocks hP hD hS ((by rw [if_neg (by rw [c_40]; decide)])) dX6_seen_125
      | succ n ih =>
        intro a hcnta H locs hP hD hS ls hl
        have hlta : a < ki := by omega
        have hwb := we9_b (f := (fun aa => em9 C me aa ev)) (l2d_b hE0 hE1) a (by omega)
        refine lv_iload hx hb dX6_seen_59 (lv_at hl 4 rfl) ?_
        refine lv_iload_n hx hb dX6_seen_61 rfl (lv_at hl 1 rfl) ?_
        refine ci_ge (tgt := 120) hx hb dX6_seen_62 (by decide) (nT (by omega)) (nT (by omega)) (fun c_62 => by omega) (fun c_62 => ?_)
        refine lv_aload_n hx hb dX6_seen_65 rfl (lv_at hl 0 rfl) ?_
        refine lv_iload hx hb dX6_seen_66 (lv_at hl 4 rfl) ?_
        refine lv_iload_n hx hb dX6_seen_68 rfl (lv_at hl 2 rfl) ?_
        refine cr_l (wc := [(h0, .inr (6, [.int (nI 0), .int (nI mi), .int (nI me), .int (nI dp), .int (bI up), .int (nI dn), .ref ma, .ref mx, .ref mh, .ref mg, .ref mc, .ref mo, .ref mr, .ref mf, .long wp, .long wl, .int (nI ru), .int (nI sm), .ref mk, .ref ml])), (ma, .inl (cI, 600, .inl (nA C)))]) (w1 := [(h0, .inr (6, [.int (nI 0), .int (nI mi), .int (nI me), .int (nI dp), .int (bI up), .int (nI dn), .ref ma, .ref mx, .ref mh, .ref mg, .ref mc, .ref mo, .ref mr, .ref mf, .long wp, .long wl, .int (nI ru), .int (nI sm), .ref mk, .ref ml])), (ma, .inl (cI, 600, .inl (nA C)))]) (ws2 := [(h0, .inr (6, [.int (nI 0), .int (nI mi), .int (nI me), .int (nI dp), .int (bI up), .int (nI dn), .ref ma, .ref mx, .ref mh, .ref mg, .ref mc, .ref mo, .ref mr, .ref mf, .long wp, .long wl, .int (nI ru), .int (nI sm), .ref mk, .ref ml])), (mh, .inl (cI, 20, .inl (nA HI))), (ma, .inl (cI, 600, .inl (nA C)))]) hP hD hS hA [0, 2] rfl rfl rfl (va_runV (As := [.int (nI a), .int (nI ev)]) (rest := []) ⟨hx, hb, hml, hown, hts⟩ (c_X6_echoOf l D cI cJ cZ h0 0 mi me dp up dn ma mx mh mg mc mo mr mf mk ml wp wl ru sm C a ev (by omega) (by omega) (by omega) H.size) (cwV 2 hts gX6_seen_X6_echoOf rfl rfl rfl (by decide +kernel) ⟨Nat.le_of_ble_eq_true rfl, Nat.le_of_ble_eq_true rfl⟩) (pvV hT hP hD [0, 2] rfl rfl 0 rfl rfl) rfl rfl hl.1 rfl (lv_room (Nat.le_of_ble_eq_true rfl)) dX6_seen_69 ⟨Nat.zero_le _, Nat.zero_le _⟩) (fun H locs hP hD hS => ?_)
        refine lv_lstore (lv' := [(7, .long (em9 C me a ev)), (0, .ref h0), (1, .int (nI ki)), (2, .int (nI ev)), (4, .double (we9 (fun aa => em9 C me aa ev) (FP.l2d (em9 C me ki ev)) a)), (6, .int (nI a))]) hx hb dX6_seen_72 hl (by decide) rfl (fun ls hl => ?_)
        refine lv_lload hx hb dX6_seen_74 (lv_at hl 0 rfl) ?_
        refine lv_ldc2 (v := 1000) hx hb hown hc139 dX6_seen_76 ?_
        refine cl_lt (tgt := 92) hx hb dX6_seen_79 dX6_seen_80 (by decide) (fun c_80 => ?_) (fun c_80 => ?_)
        · have hn1 : ¬ 1000 ≤ em9 C me a ev := fun z => Int64.lt_irrefl (Int64.lt_of_lt_of_le c_80 z)
          refine lv_lload hx hb dX6_seen_92 (lv_at hl 0 rfl) ?_
          refine lv_ldc2 (v := 100) hx hb hown hc143 dX6_seen_94 ?_
          refine cl_lt (tgt := 110) hx hb dX6_seen_97 dX6_seen_98 (by decide) (fun c_98 => ?_) (fun c_98 => ?_)
          · have hn2 : ¬ 100 ≤ em9 C me a ev := fun z => Int64.lt_irrefl (Int64.lt_of_lt_of_le c_98 z)
            have hws : we9 (fun aa => em9 C me aa ev) (FP.l2d (em9 C me ki ev)) (a + 1) = we9 (fun aa => em9 C me aa ev) (FP.l2d (em9 C me ki ev)) a := by show (if 1000 ≤ em9 C me a ev then FP.dmul (we9 (fun aa => em9 C me aa ev) (FP.l2d (em9 C me ki ev)) a) 4606281698874543309 else if 100 ≤ em9 C me a ev then FP.dmul (we9 (fun aa => em9 C me aa ev) (FP.l2d (em9 C me ki ev)) a) 4607002274814922588 else we9 (fun aa => em9 C me aa ev) (FP.l2d (em9 C me ki ev)) a) = _; rw [if_neg hn1, if_neg hn2]
            refine lv_dload hx hb dX6_seen_110 (lv_at hl 4 rfl) ?_
            refine lv_dstore (lv' := [(4, .double (we9 (fun aa => em9 C me aa ev) (FP.l2d (em9 C me ki ev)) a)), (7, .long (em9 C me a ev)), (0, .ref h0), (1, .int (nI ki)), (2, .int (nI ev)), (6, .int (nI a))]) hx hb dX6_seen_112 hl (by decide) rfl (fun ls hl => ?_)
            refine lv_iinc (v := nI (a + 1)) (lv' := [(6, .int (nI (a + 1))), (4, .double (we9 (fun aa => em9 C me aa ev) (FP.l2d (em9 C me ki ev)) a)), (7, .long (em9 C me a ev)), (0, .ref h0), (1, .int (nI ki)), (2, .int (nI ev))]) hx hb dX6_seen_114 hl (k := 5) rfl (n_inc a) (by decide) rfl (fun ls hl => ?_)
            refine lv_goto (tgt := 59) hx hb dX6_seen_117 (by decide) ?_
            have hle : ([(0, .ref h0), (1, .int (nI ki)), (2, .int (nI ev)), (4, .double (we9 (fun aa => em9 C me aa ev) (FP.l2d (em9 C me ki ev)) (a + 1))), (6, .int (nI (a + 1)))] : List (Nat × Value)) = [(0, .ref h0), (1, .int (nI ki)), (2, .int (nI ev)), (4, .double (we9 (fun aa => em9 C me aa ev) (FP.l2d (em9 C me ki ev)) a)), (6, .int (nI (a + 1)))] := (by rw [hws])
            exact ih (a + 1) (by omega) H locs hP hD hS ls (by rw [hle]; exact lv_sub hl [3, 4, 5, 1, 0] rfl)
          · have hn2 : 100 ≤ em9 C me a ev := Int64.not_lt.mp c_98
            have hws : we9 (fun aa => em9 C me aa ev) (FP.l2d (em9 C me ki ev)) (a + 1) = FP.dmul (we9 (fun aa => em9 C me aa ev) (FP.l2d (em9 C me ki ev)) a) 4607002274814922588 := by show (if 1000 ≤ em9 C me a ev then FP.dmul (we9 (fun aa => em9 C me aa ev) (FP.l2d (em9 C me ki ev)) a) 4606281698874543309 else if 100 ≤ em9 C me a ev then FP.dmul (we9 (fun aa => em9 C me aa ev) (FP.l2d (em9 C me ki ev)) a) 4607002274814922588 else we9 (fun aa => em9 C me aa ev) (FP.l2d (em9 C me ki ev)) a) = _; rw [if_neg hn1, if_pos hn2]
            refine lv_dload hx hb dX6_seen_101 (lv_at hl 4 rfl) ?_
            refine lv_ldc2d (v := 4607002274814922588) hx hb hown hc145 dX6_seen_103 ?_
            refine lv_dmul hx hb dX6_seen_106 (f_nn (WB_fin (a := a + 1) (by omega) (WB_98 (by omega) hwb))) ?_
            refine lv_goto (tgt := 112) hx hb dX6_seen_107 (by decide) ?_
            refine lv_dstore (lv' := [(4, .double (FP.dmul (we9 (fun aa => em9 C me aa ev) (FP.l2d (em9 C me ki ev)) a) 4607002274814922588)), (7, .long (em9 C me a ev)), (0, .ref h0), (1, .int (nI ki)), (2, .int (nI ev)), (6, .int (nI a))]) hx hb dX6_seen_112 hl (by decide) rfl (fun ls hl => ?_)
            refine lv_iinc (v := nI (a + 1)) (lv' := [(6, .int (nI (a + 1))), (4, .double (FP.dmul (we9 (fun aa => em9 C me aa ev) (FP.l2d (em9 C me ki ev)) a) 4607002274814922588)), (7, .long (em9 C me a ev)), (0, .ref h0), (1, .int (nI ki)), (2, .int (nI ev))]) hx hb dX6_seen_114 hl (k := 5) rfl (n_inc a) (by decide) rfl (fun ls hl => ?_)
            refine lv_goto (tgt := 59) hx hb dX6_seen_117 (by decide) ?_
            have hle : ([(0, .ref h0), (1, .int (nI ki)), (2, .int (nI ev)), (4, .double (we9 (fun aa => em9 C me aa ev) (FP.l2d (em9 C me ki ev)) (a + 1))), (6, .int (nI (a + 1)))] : List (Nat × Value)) = [(0, .ref h0), (1, .int (nI ki)), (2, .int (nI ev)), (4, .double (FP.dmul (we9 (fun aa => em9 C me aa ev) (FP.l2d (em9 C me ki ev)) a) 4607002274814922588)), (6, .int (nI (a + 1)))] := (by rw [hws])
            exact ih (a + 1) (by omega) H locs hP hD hS ls (by rw [hle]; exact lv_sub hl [3, 4, 5, 1, 0] rfl)
        · have hn1 : 1000 ≤ em9 C me a ev := Int64.not_lt.mp c_80
          have hws : we9 (fun aa => em9 C me aa ev) (FP.l2d (em9 C me ki ev)) (a + 1) = FP.dmul (we9 (fun aa => em9 C me aa ev) (FP.l2d (em9 C me ki ev)) a) 4606281698874543309 := by show (if 1000 ≤ em9 C me a ev then FP.dmul (we9 (fun aa => em9 C me aa ev) (FP.l2d (em9 C me ki ev)) a) 4606281698874543309 else if 100 ≤ em9 C me a ev then FP.dmul (we9 (fun aa => em9 C me aa ev) (FP.l2d (em9 C me ki ev)) a) 4607002274814922588 else we9 (fun aa => em9 C me aa ev) (FP.l2d (em9 C me ki ev)) a) = _; rw [if_pos hn1]
          refine lv_dload hx hb dX6_seen_83 (lv_at hl 4 rfl) ?_
          refine lv_ldc2d (v := 4606281698874543309) hx hb hown hc141 dX6_seen_85 ?_
          refine lv_dmul hx hb dX6_seen_88 (f_nn (WB_fin (a := a + 1) (by omega) (WB_9 (by omega) hwb))) ?_
          refine lv_goto (tgt := 112) hx hb dX6_seen_89 (by decide) ?_
          refine lv_dstore (lv' := [(4, .double (FP.dmul (we9 (fun aa => em9 C me aa ev) (FP.l2d (em9 C me ki ev)) a) 4606281698874543309)), (7, .long (em9 C me a ev)), (0, .ref h0), (1, .int (nI ki)), (2, .int (nI ev)), (6, .int (nI a))]) hx hb dX6_seen_112 hl (by decide) rfl (fun ls hl => ?_)
          refine lv_iinc (v := nI (a + 1)) (lv' := [(6, .int (nI (a + 1))), (4, .double (FP.dmul (we9 (fun aa => em9 C me aa ev) (FP.l2d (em9 C me ki ev)) a) 4606281698874543309)), (7, .long (em9 C me a ev)), (0, .ref h0), (1, .int (nI ki)), (2, .int (nI ev))]) hx hb dX6_seen_114 hl (k := 5) rfl (n_inc a) (by decide) rfl (fun ls hl => ?_)
          refine lv_goto (tgt := 59) hx hb dX6_seen_117 (by decide) ?_
          have hle : ([(0, .ref h0), (1, .int (nI ki)), (2, .int (nI ev)), (4, .double (we9 (fun aa => em9 C me aa ev) (FP.l2d (em9 C me ki ev)) (a + 1))), (6, .int (nI (a + 1)))] : List (Nat × Value)) = [(0, .ref h0), (1, .int (nI ki)), (2, .int (nI ev)), (4, .double (FP.dmul (we9 (fun aa => em9 C me aa ev) (FP.l2d (em9 C me ki ev)) a) 4606281698874543309)), (6, .int (nI (a + 1)))] := (by rw [hws])
          exact ih (a + 1) (by omega) H locs hP hD hS ls (by rw [hle]; exact lv_sub hl [3, 4, 5, 1, 0] rfl)
    have hle : ([(0, .ref h0), (1, .int (nI ki)), (2, .int (nI ev)), (4, .double (we9 (fun aa => em9 C me aa ev) (FP.l2d (em9 C me ki ev)) 0)), (6, .int (nI 0))] : List (Nat × Value)) = [(0, .ref h0), (1, .int (nI ki)), (2, .int (nI ev)), (4, .double (FP.l2d (em9 C me ki ev))), (6, .int (nI 0))] := rfl
    exact lp59 ki 0 (by omega) H locs hP hD hS ls (by rw [hle]; exact lv_sub hl [3, 4, 5, 1, 0] rfl)
  · refine lv_ldc2 (v := -1) hx hb hown hc133 dX6_seen_43 ?_
    exact fin_l hx hb hr hlocks hP hD hS ((by rw [if_pos c_40])) dX6_seen_46
