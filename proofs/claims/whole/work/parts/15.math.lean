/-! ===== the two minutes agree ===== -/
/-- what the map d brings to x from the first n places of C -/
def tot (d C : Nat → Nat) (x : Nat) : Nat → Nat | 0 => 0 | n + 1 => tot d C x n + if d n = x then C n else 0
def totL (d : Nat → Nat) (w : Nat → Int64) (x : Nat) : Nat → Int64 | 0 => 0 | n + 1 => totL d w x n + if d n = x then w n else 0
theorem tot_0 {d C : Nat → Nat} {x : Nat} : ∀ n, (∀ m, m < n → d m ≠ x) → tot d C x n = 0
  | 0, _ => rfl
  | n + 1, h => by
    show tot d C x n + (if d n = x then C n else 0) = 0
    rw [tot_0 n (fun m hm => h m (by omega)), if_neg (h n (by omega))]
theorem tot_congr {d d' C C' : Nat → Nat} {x : Nat} : ∀ n, (∀ m, m < n → d m = d' m ∧ C m = C' m) → tot d C x n = tot d' C' x n
  | 0, _ => rfl
  | n + 1, h => by
    show tot d C x n + (if d n = x then C n else 0) = tot d' C' x n + (if d' n = x then C' n else 0)
    rw [tot_congr n (fun m hm => h m (by omega)), (h n (by omega)).1, (h n (by omega)).2]
theorem totL_congr {d d' : Nat → Nat} {w w' : Nat → Int64} {x : Nat} : ∀ n, (∀ m, m < n → d m = d' m ∧ w m = w' m) → totL d w x n = totL d' w' x n
  | 0, _ => rfl
  | n + 1, h => by
    show totL d w x n + (if d n = x then w n else 0) = totL d' w' x n + (if d' n = x then w' n else 0)
    rw [totL_congr n (fun m hm => h m (by omega)), (h n (by omega)).1, (h n (by omega)).2]
/-- where a place of the air falls to -/
def dfl (me n : Nat) : Nat := if n / 3 % 10 < faN (n / 3 % 10) (n % 3 + 1) me then 600 + n / 30 else n - 3 * faN (n / 3 % 10) (n % 3 + 1) me
theorem faN_b (n me : Nat) : 1 ≤ faN (n / 3 % 10) (n % 3 + 1) me ∧ faN (n / 3 % 10) (n % 3 + 1) me ≤ 3 := faN_le (by omega) (by omega)
theorem dfl_lt {me n : Nat} (h : n < 600) : dfl me n < n ∨ (600 ≤ dfl me n ∧ dfl me n < 620) := by
  have hb := faN_b n me
  unfold dfl
  split
  · omega
  · omega
/-- the class's minute of falling, place by place -/
def IC (me : Nat) (C : Nat → Nat) : Nat → (Nat → Nat) | 0 => C | n + 1 => fst9 me (IC me C n) n
theorem FC_IC (me : Nat) (C : Nat → Nat) (n : Nat) : ∀ j, FC me (IC me C n) n j = IC me C (n + j)
  | 0 => rfl
  | j + 1 => by
    show fst9 me (FC me (IC me C n) n j) (n + j) = fst9 me (IC me C (n + j)) (n + j)
    rw [FC_IC me C n j]
theorem GC_IC (me : Nat) (C : Nat → Nat) : ∀ k, GC me C k = IC me C (30 * k)
  | 0 => rfl
  | k + 1 => by
    show FC me (GC me C k) (30 * k) 30 = _
    rw [GC_IC me C k, FC_IC, show 30 * k + 30 = 30 * (k + 1) by omega]
theorem IC_eq (me : Nat) (C : Nat → Nat) : ∀ n, n ≤ 600 → ∀ x, x < 600 → IC me C n x = tot (dfl me) C x n + if n ≤ x then C x else 0
  | 0, _, x, _ => by
    show C x = 0 + _
    rw [if_pos (Nat.zero_le _), Nat.zero_add]
  | n + 1, hn, x, hx => by
    have ih := IC_eq me C n (by omega)
    have hnn : IC me C n n = C n := by
      rw [ih n (by omega), if_pos (Nat.le_refl _), tot_0 n (fun m hm => by have := dfl_lt (me := me) (n := m) (by omega); omega), Nat.zero_add]
    have hb := faN_b n me
    show fst9 me (IC me C n) n x = tot (dfl me) C x n + (if dfl me n = x then C n else 0) + (if n + 1 ≤ x then C x else 0)
    have t0 : x = n → tot (dfl me) C x n = 0 := fun e => tot_0 n (fun m hm => by have := dfl_lt (me := me) (n := m) (by omega); omega)
    unfold fst9
    rcases Decidable.em (n / 3 % 10 < faN (n / 3 % 10) (n % 3 + 1) me) with h | h
    · have d1 : dfl me n = 600 + n / 30 := if_pos h
      rw [if_pos h, d1]
      rcases Decidable.em (x = n) with e | e
      · rw [if_neg (by omega), if_neg (by omega), t0 e]
        rw [e]
        exact uN_s
      · rw [uN_n e, ih x hx]
        rw [if_neg (show ¬ 600 + n / 30 = x by omega)]
        rcases Decidable.em (n ≤ x) with h2 | h2
        · rw [if_pos h2, if_pos (by omega)]; rfl
        · rw [if_neg h2, if_neg (by omega)]
    · have d1 : dfl me n = n - 3 * faN (n / 3 % 10) (n % 3 + 1) me := if_neg h
      rw [if_neg h, d1]
      rcases Decidable.em (x = n) with e | e
      · rw [if_neg (by omega), if_neg (by omega), t0 e]
        rw [e, uN_n (by omega)]
        exact uN_s
      · rcases Decidable.em (x = n - 3 * faN (n / 3 % 10) (n % 3 + 1) me) with e2 | e2
        · rw [if_pos e2.symm, if_neg (by omega), ← e2, uN_s, uN_n e, hnn, ih x hx, if_neg (show ¬ n ≤ x by omega)]
          omega
        · rw [uN_n e2, uN_n e, ih x hx, if_neg (show ¬ n - 3 * faN (n / 3 % 10) (n % 3 + 1) me = x from fun z => e2 z.symm)]
          rcases Decidable.em (n ≤ x) with h2 | h2
          · rw [if_pos h2, if_pos (by omega)]; rfl
          · rw [if_neg h2, if_neg (by omega)]
theorem IC_at (me : Nat) (C : Nat → Nat) {n : Nat} (hn : n < 600) : IC me C n n = C n := by
  rw [IC_eq me C n (by omega) n hn, if_pos (Nat.le_refl _), tot_0 n (fun m hm => by have := dfl_lt (me := me) (n := m) (by omega); omega), Nat.zero_add]
theorem GC_eq (me : Nat) (C : Nat → Nat) {x : Nat} (hx : x < 600) : GC me C 20 x = tot (dfl me) C x 600 := by
  rw [GC_IC, IC_eq me C (30 * 20) (by omega) x hx, if_neg (by omega), Nat.add_zero]
theorem NXf_eq (me : Nat) (C NX : Nat → Nat) {x : Nat} (hx : x < 600) : ∀ n, n ≤ 600 → NXf me C NX n x = NX x + tot (dfl me) C x n
  | 0, _ => rfl
  | n + 1, hn => by
    have ih := NXf_eq me C NX hx n (by omega)
    have hb := faN_b n me
    show (if n / 3 % 10 < faN (n / 3 % 10) (n % 3 + 1) me then NXf me C NX n else uN (NXf me C NX n) (n - 3 * faN (n / 3 % 10) (n % 3 + 1) me) (NXf me C NX n (n - 3 * faN (n / 3 % 10) (n % 3 + 1) me) + C n)) x = NX x + (tot (dfl me) C x n + if dfl me n = x then C n else 0)
    rcases Decidable.em (n / 3 % 10 < faN (n / 3 % 10) (n % 3 + 1) me) with h | h
    · have d1 : dfl me n = 600 + n / 30 := if_pos h
      rw [if_pos h, d1, if_neg (by omega)]
      exact ih
    · have d1 : dfl me n = n - 3 * faN (n / 3 % 10) (n % 3 + 1) me := if_neg h
      rw [if_neg h, d1]
      rcases Decidable.em (n - 3 * faN (n / 3 % 10) (n % 3 + 1) me = x) with e | e
      · rw [e, uN_s, if_pos rfl, ih]
        omega
      · rw [uN_n (fun z => e z.symm), if_neg e, ih]
        rfl
theorem clr_eq {α : Type} (z : α) (f : Nat → α) : ∀ n x, clr z f n x = if x < n then z else f x
  | 0, x => rfl
  | n + 1, x => by
    show uN (clr z f n) n z x = _
    rcases Decidable.em (x = n) with e | e
    · rw [e, uN_s, if_pos (by omega)]
    · rw [uN_n e, clr_eq z f n x]
      rcases Decidable.em (x < n) with h | h
      · rw [if_pos h, if_pos (by omega)]
      · rw [if_neg h, if_neg (by omega)]
/-- the water that reaches the ground under k in a minute -/
def wat (C : Nat → Nat) (n : Nat) : Int64 := wtr (n % 3 + 1) (C n)
def lan (me : Nat) (C : Nat → Nat) (k : Nat) : Nat → Int64 | 0 => 0 | j + 1 => lan me C k j + if dfl me (30 * k + j) = 600 + k then wat C (30 * k + j) else 0
theorem dfl_g {me n k : Nat} (hn : n < 600) : dfl me n = 600 + k ↔ (n / 3 % 10 < faN (n / 3 % 10) (n % 3 + 1) me ∧ n / 30 = k) := by
  have hb := faN_b n me
  unfold dfl
  split <;> omega
theorem FL_eq (me : Nat) (C : Nat → Nat) {k : Nat} (hk : k < 20) : ∀ j, j ≤ 30 → FL me (IC me C (30 * k)) (30 * k) j = lan me C k j
  | 0, _ => rfl
  | j + 1, hj => by
    show FL me (IC me C (30 * k)) (30 * k) j + fsw9 me (FC me (IC me C (30 * k)) (30 * k) j) (30 * k + j) = lan me C k j + _
    rw [FL_eq me C hk j (by omega), FC_IC]
    unfold fsw9
    rw [IC_at me C (by omega)]
    rcases Decidable.em ((30 * k + j) / 3 % 10 < faN ((30 * k + j) / 3 % 10) ((30 * k + j) % 3 + 1) me) with h | h
    · rw [if_pos h, if_pos ((dfl_g (by omega)).mpr ⟨h, by omega⟩)]
      rfl
    · rw [if_neg h, if_neg (fun z => h ((dfl_g (by omega)).mp z).1)]
theorem GLd_eq (me : Nat) (C : Nat → Nat) {k : Nat} (hk : k < 20) : GLd me C k = lan me C k 30 := by
  unfold GLd
  rw [GC_IC, FL_eq me C hk 30 (by omega)]
theorem FAf_ne (me : Nat) (C : Nat → Nat) (FA : Nat → Int64) (k : Nat) : ∀ n j, (∀ i, i < j → (n + i) / 30 ≠ k) → FAf me C FA (n + j) k = FAf me C FA n k
  | _, 0, _ => rfl
  | n, j + 1, h => by
    have ih := FAf_ne me C FA k n j (fun i hi => h i (by omega))
    show (if (n + j) / 3 % 10 < faN ((n + j) / 3 % 10) ((n + j) % 3 + 1) me then uN (FAf me C FA (n + j)) ((n + j) / 30) (FAf me C FA (n + j) ((n + j) / 30) + wtm (C (n + j)) ((n + j) % 3 + 1)) else FAf me C FA (n + j)) k = _
    split
    · rw [uN_n (fun z => h j (by omega) z.symm), ih]
    · exact ih
theorem FAf_row (me : Nat) (C : Nat → Nat) (FA : Nat → Int64) {k : Nat} (hk : k < 20) : ∀ j, j ≤ 30 → FAf me C FA (30 * k + j) k = FAf me C FA (30 * k) k + lan me C k j
  | 0, _ => by
    show _ = _ + (0 : Int64)
    rw [Int64.add_zero]; rfl
  | j + 1, hj => by
    have ih := FAf_row me C FA hk j (by omega)
    show (if (30 * k + j) / 3 % 10 < faN ((30 * k + j) / 3 % 10) ((30 * k + j) % 3 + 1) me then uN (FAf me C FA (30 * k + j)) ((30 * k + j) / 30) (FAf me C FA (30 * k + j) ((30 * k + j) / 30) + wtm (C (30 * k + j)) ((30 * k + j) % 3 + 1)) else FAf me C FA (30 * k + j)) k = _ + (lan me C k j + _)
    rcases Decidable.em ((30 * k + j) / 3 % 10 < faN ((30 * k + j) / 3 % 10) ((30 * k + j) % 3 + 1) me) with h | h
    · rw [if_pos h, if_pos ((dfl_g (by omega)).mpr ⟨h, by omega⟩), show (30 * k + j) / 30 = k by omega, uN_s, ih, wtm_eq, Int64.add_assoc]
      rfl
    · rw [if_neg h, if_neg (fun z => h ((dfl_g (by omega)).mp z).1), ih, Int64.add_zero]
theorem FAf_eq (me : Nat) (C : Nat → Nat) (FA : Nat → Int64) {k : Nat} (hk : k < 20) (h0 : FA k = 0) : FAf me C FA 600 k = lan me C k 30 := by
  have h1 := FAf_ne me C FA k 0 (30 * k) (fun i hi => by omega)
  have h2 := FAf_row me C FA hk 30 (by omega)
  have h3 := FAf_ne me C FA k (30 * k + 30) (570 - 30 * k) (fun i hi => by omega)
  rw [show 30 * k + 30 + (570 - 30 * k) = 600 by omega] at h3
  rw [show 0 + 30 * k = 30 * k by omega] at h1
  rw [h3, h2, h1]
  show FA k + _ = _
  rw [h0, Int64.zero_add]
theorem GG_eq (me : Nat) (C : Nat → Nat) (GR : Nat → Int64) : ∀ n x, GG me C GR n x = if x < n then GR x + GLd me C x else GR x
  | 0, x => rfl
  | n + 1, x => by
    show uN (GG me C GR n) n (GG me C GR n n + GLd me C n) x = _
    rcases Decidable.em (x = n) with e | e
    · rw [e, uN_s, if_pos (by omega), GG_eq me C GR n n, if_neg (by omega)]
    · rw [uN_n e, GG_eq me C GR n x]
      rcases Decidable.em (x < n) with h | h
      · rw [if_pos h, if_pos (by omega)]
      · rw [if_neg h, if_neg (by omega)]
theorem GRm_eq (GR F : Nat → Int64) : ∀ n x, GRm GR F n x = if x < n then GR x + F x else GR x
  | 0, x => rfl
  | n + 1, x => by
    show uN (GRm GR F n) n (GRm GR F n n + F n) x = _
    rcases Decidable.em (x = n) with e | e
    · rw [e, uN_s, if_pos (by omega), GRm_eq GR F n n, if_neg (by omega)]
    · rw [uN_n e, GRm_eq GR F n x]
      rcases Decidable.em (x < n) with h | h
      · rw [if_pos h, if_pos (by omega)]
      · rw [if_neg h, if_neg (by omega)]
def gof (UP CL : Nat → Bool) (w : Int64) (x : Nat) : Int64 := if UP x = true then (if CL x = true then w / 2 else w) else 0
theorem GO_eq (me : Nat) (C : Nat → Nat) (UP CL : Nat → Bool) (CO : Nat → Int64) : ∀ n x, GO me C UP CL CO n x = if x < n then CO x + gof UP CL (GLd me C x) x else CO x
  | 0, x => rfl
  | n + 1, x => by
    show coF UP CL (GO me C UP CL CO n) n (GLd me C n) x = _
    unfold coF
    have ih := GO_eq me C UP CL CO n
    rcases Decidable.em (UP n = true) with u | u
    · rw [if_pos u]
      rcases Decidable.em (x = n) with e | e
      · rw [e, uN_s, if_pos (show n < n + 1 by omega), ih n, if_neg (show ¬ n < n by omega)]
        unfold gof
        rw [if_pos u]
      · rw [uN_n e, ih x]
        rcases Decidable.em (x < n) with h | h
        · rw [if_pos h, if_pos (by omega)]
        · rw [if_neg h, if_neg (by omega)]
    · rw [if_neg u, ih x]
      rcases Decidable.em (x = n) with e | e
      · rw [e, if_neg (by omega), if_pos (by omega)]
        unfold gof
        rw [if_neg u, Int64.add_zero]
      · rcases Decidable.em (x < n) with h | h
        · rw [if_pos h, if_pos (by omega)]
        · rw [if_neg h, if_neg (by omega)]
theorem COm_eq (UP CL : Nat → Bool) (CO F : Nat → Int64) : ∀ n x, COm UP CL CO F n x = if x < n then CO x + gof UP CL (F x) x else CO x
  | 0, x => rfl
  | n + 1, x => by
    show uN (COm UP CL CO F n) n (COm UP CL CO F n n + gof UP CL (F n) n) x = _
    have ih := COm_eq UP CL CO F n
    rcases Decidable.em (x = n) with e | e
    · rw [e, uN_s, if_pos (by omega), ih n, if_neg (by omega)]
    · rw [uN_n e, ih x]
      rcases Decidable.em (x < n) with h | h
      · rw [if_pos h, if_pos (by omega)]
      · rw [if_neg h, if_neg (by omega)]
/-! ===== the drift ===== -/
theorem mvi_eq (C : Nat → Nat) {fr to : Nat} (hne : fr ≠ to) : ∀ j, j ≤ 30 → ∀ x, mvi C fr to j x = if 30 * fr ≤ x ∧ x < 30 * fr + j then 0 else if 30 * to ≤ x ∧ x < 30 * to + j then C x + C (30 * fr + (x - 30 * to)) else C x
  | 0, _, x => by
    rw [if_neg (by omega), if_neg (by omega)]; rfl
  | j + 1, hj, x => by
    have ih := mvi_eq C hne j (by omega)
    show uN (uN (mvi C fr to j) (30 * fr + j) 0) (30 * to + j) (uN (mvi C fr to j) (30 * fr + j) 0 (30 * to + j) + mvi C fr to j (30 * fr + j)) x = _
    have a1 : mvi C fr to j (30 * fr + j) = C (30 * fr + j) := by rw [ih, if_neg (by omega), if_neg (by omega)]
    have a2 : mvi C fr to j (30 * to + j) = C (30 * to + j) := by rw [ih, if_neg (by omega), if_neg (by omega)]
    rcases Decidable.em (x = 30 * to + j) with e | e
    · rw [e, uN_s, uN_n (by omega), a1, a2, if_neg (by omega), if_pos (by omega), show 30 * to + j - 30 * to = j by omega]
    · rw [uN_n e]
      rcases Decidable.em (x = 30 * fr + j) with e2 | e2
      · rw [e2, uN_s, if_pos (by omega)]
      · rw [uN_n e2, ih x]
        rcases Decidable.em (30 * fr ≤ x ∧ x < 30 * fr + j) with h | h
        · rw [if_pos h, if_pos (by omega)]
        · rw [if_neg h, if_neg (show ¬ (30 * fr ≤ x ∧ x < 30 * fr + (j + 1)) by omega)]
          rcases Decidable.em (30 * to ≤ x ∧ x < 30 * to + j) with h3 | h3
          · rw [if_pos h3, if_pos (by omega)]
          · rw [if_neg h3, if_neg (by omega)]
theorem mvo_eq (C : Nat → Nat) {fr : Nat} : ∀ j x, mvo C fr j x = if 30 * fr ≤ x ∧ x < 30 * fr + j then 0 else C x
  | 0, x => by
    rw [if_neg (by omega)]; rfl
  | j + 1, x => by
    show uN (mvo C fr j) (30 * fr + j) 0 x = _
    rcases Decidable.em (x = 30 * fr + j) with e2 | e2
    · rw [e2, uN_s, if_pos (by omega)]
    · rw [uN_n e2, mvo_eq C j x]
      rcases Decidable.em (30 * fr ≤ x ∧ x < 30 * fr + j) with h | h
      · rw [if_pos h, if_pos (by omega)]
      · rw [if_neg h, if_neg (by omega)]
/-- the water of a row -/
def row (C : Nat → Nat) (k : Nat) : Nat → Int64 | 0 => 0 | j + 1 => row C k j + wat C (30 * k + j)
theorem mvl_eq (C : Nat → Nat) (fr : Nat) : ∀ j, mvl C fr j = row C fr j
  | 0 => rfl
  | j + 1 => by
    show mvl C fr j + wtr (j % 3 + 1) (mvo C fr j (30 * fr + j)) = row C fr j + wtr ((30 * fr + j) % 3 + 1) (C (30 * fr + j))
    rw [mvl_eq C fr j, mvo_eq, if_neg (by omega), show (30 * fr + j) % 3 = j % 3 by omega]
theorem mU_eq (C : Nat → Nat) : ∀ i, i ≤ 20 → ∀ x, x < 600 → mU C i x = if x < 30 * (20 - i) then C x else if x < 30 * (20 - i) + 30 then 0 else C (x - 30)
  | 0, _, x, hx => by
    rw [if_pos (by omega)]; rfl
  | i + 1, hi, x, hx => by
    have ih := mU_eq C i (by omega)
    show (if i = 0 then mvo (mU C i) (19 - i) 30 else mvi (mU C i) (19 - i) (19 - i + 1) 30) x = _
    rcases Decidable.em (i = 0) with e | e
    · rw [if_pos e, mvo_eq, ih x hx, e]
      rcases Decidable.em (570 ≤ x) with h | h
      · rw [if_pos (by omega), if_neg (by omega), if_pos (by omega)]
      · rw [if_neg (by omega), if_pos (by omega), if_pos (by omega)]
    · rw [if_neg e, mvi_eq _ (by omega) 30 (by omega), ih x hx]
      rcases Decidable.em (x < 30 * (20 - (i + 1))) with h | h
      · rw [if_neg (by omega), if_neg (by omega), if_pos (by omega), if_pos h]
      · rcases Decidable.em (x < 30 * (20 - (i + 1)) + 30) with h2 | h2
        · rw [if_pos (by omega), if_neg h, if_pos h2]
        · rw [if_neg (by omega), if_neg h, if_neg h2]
          rcases Decidable.em (x < 30 * (20 - i) + 30) with h3 | h3
          · rw [if_pos (by omega), if_neg (by omega), if_pos h3, ih _ (by omega), if_pos (by omega), Nat.zero_add]
            congr 1
            omega
          · rw [if_neg (by omega), if_neg (by omega), if_neg h3]
theorem mW_eq (C : Nat → Nat) : ∀ i, i ≤ 20 → ∀ x, x < 600 → mW C i x = if 30 * i ≤ x then C x else if 30 * i ≤ x + 30 then 0 else C (x + 30)
  | 0, _, x, hx => by
    rw [if_pos (by omega)]; rfl
  | i + 1, hi, x, hx => by
    have ih := mW_eq C i (by omega)
    show (if i = 0 then mvo (mW C i) i 30 else mvi (mW C i) i (i - 1) 30) x = _
    rcases Decidable.em (i = 0) with e | e
    · rw [if_pos e, mvo_eq, ih x hx, e]
      rcases Decidable.em (30 ≤ x) with h | h
      · rw [if_neg (by omega), if_pos (by omega), if_pos (by omega)]
      · rw [if_pos (by omega), if_neg (by omega), if_pos (by omega)]
    · rw [if_neg e, mvi_eq _ (by omega) 30 (by omega), ih x hx]
      rcases Decidable.em (30 * (i + 1) ≤ x) with h | h
      · rw [if_neg (by omega), if_neg (by omega), if_pos (by omega), if_pos h]
      · rcases Decidable.em (30 * (i + 1) ≤ x + 30) with h2 | h2
        · rw [if_pos (by omega), if_neg h, if_pos h2]
        · rw [if_neg (by omega), if_neg h, if_neg h2]
          rcases Decidable.em (30 * i ≤ x + 30) with h3 | h3
          · rw [if_pos (by omega), if_neg (by omega), if_pos h3, ih _ (by omega), if_pos (by omega), Nat.zero_add]
            congr 1
            omega
          · rw [if_neg (by omega), if_neg (by omega), if_neg h3]
/-- where a place drifts to -/
def dbl0 (up : Bool) (n : Nat) : Nat := if 0 ≤ bto up n ∧ bto up n ≤ 599 then (bto up n).toNat else 620
theorem NXb_eq (up : Bool) (C NX : Nat → Nat) {x : Nat} (hx : x < 600) : ∀ n, n ≤ 600 → NXb up C NX n x = NX x + tot (dbl0 up) C x n
  | 0, _ => rfl
  | n + 1, hn => by
    have ih := NXb_eq up C NX hx n (by omega)
    show (if 0 ≤ bto up n ∧ bto up n ≤ 599 then uN (NXb up C NX n) (bto up n).toNat (NXb up C NX n (bto up n).toNat + C n) else NXb up C NX n) x = NX x + (tot (dbl0 up) C x n + if dbl0 up n = x then C n else 0)
    rcases Decidable.em (0 ≤ bto up n ∧ bto up n ≤ 599) with h | h
    · have d1 : dbl0 up n = (bto up n).toNat := if_pos h
      rw [if_pos h, d1]
      rcases Decidable.em ((bto up n).toNat = x) with e | e
      · rw [e, uN_s, if_pos rfl, ih]
        omega
      · rw [uN_n (fun z => e z.symm), if_neg e, ih]
        rfl
    · have d1 : dbl0 up n = 620 := if_neg h
      rw [if_neg h, d1, if_neg (by omega)]
      exact ih
theorem tot_1 {d C : Nat → Nat} {x y : Nat} (hy : d y = x) (hu : ∀ m, m ≠ y → d m ≠ x) : ∀ n, tot d C x n = if y < n then C y else 0
  | 0 => rfl
  | n + 1 => by
    show tot d C x n + (if d n = x then C n else 0) = _
    rw [tot_1 hy hu n]
    rcases Decidable.em (n = y) with e | e
    · rw [e, if_neg (by omega), if_pos hy, if_pos (by omega), Nat.zero_add]
    · rw [if_neg (hu n e)]
      rcases Decidable.em (y < n) with h | h
      · rw [if_pos h, if_pos (by omega)]; rfl
      · rw [if_neg h, if_neg (by omega)]
theorem mU_tot (C : Nat → Nat) {x : Nat} (hx : x < 600) : mU C 20 x = tot (dbl0 true) C x 600 := by
  have hd : ∀ m, dbl0 true m = if m ≤ 569 then m + 30 else 620 := by
    intro m
    have e : bto true m = (m : Int) + 30 := if_pos rfl
    unfold dbl0
    rw [e]
    split <;> split <;> omega
  rw [mU_eq C 20 (by omega) x hx, if_neg (by omega)]
  rcases Decidable.em (x < 30) with h | h
  · rw [if_pos (by omega), tot_0 600 (fun m hm => by rw [hd]; split <;> omega)]
  · rw [if_neg (by omega), tot_1 (y := x - 30) (by rw [hd, if_pos (by omega)]; omega) (fun m hm => by rw [hd]; split <;> omega), if_pos (by omega)]
theorem mW_tot (C : Nat → Nat) {x : Nat} (hx : x < 600) : mW C 20 x = tot (dbl0 false) C x 600 := by
  have hd : ∀ m, m < 600 → dbl0 false m = if 30 ≤ m then m - 30 else 620 := by
    intro m hm
    have e : bto false m = (m : Int) - 30 := if_neg (by decide)
    unfold dbl0
    rw [e]
    split <;> split <;> omega
  rw [mW_eq C 20 (by omega) x hx, if_neg (by omega)]
  rcases Decidable.em (570 ≤ x) with h | h
  · rw [if_pos (by omega), tot_0 600 (fun m hm => by rw [hd m hm]; split <;> omega)]
  · rw [if_neg (by omega), tot_congr (d' := fun m => if 30 ≤ m then m - 30 else 620) (C' := C) 600 (fun m hm => ⟨hd m hm, rfl⟩), tot_1 (y := x + 30) (by show (if 30 ≤ x + 30 then x + 30 - 30 else 620) = x; rw [if_pos (by omega)]; omega) (fun m hm => by show (if 30 ≤ m then m - 30 else 620) ≠ x; split <;> omega), if_pos (by omega)]
theorem mUl_eq (C : Nat → Nat) : ∀ i, mUl C (i + 1) = row C 19 30
  | 0 => by
    show (0 : Int64) + mvl C 19 30 = _
    rw [Int64.zero_add, mvl_eq]
  | i + 1 => by
    show mUl C (i + 1) + (if i + 1 = 0 then mvl (mU C (i + 1)) (19 - (i + 1)) 30 else 0) = _
    rw [if_neg (by omega), Int64.add_zero, mUl_eq C i]
theorem mWl_eq (C : Nat → Nat) : ∀ i, mWl C (i + 1) = row C 0 30
  | 0 => by
    show (0 : Int64) + mvl C 0 30 = _
    rw [Int64.zero_add, mvl_eq]
  | i + 1 => by
    show mWl C (i + 1) + (if i + 1 = 0 then mvl (mW C (i + 1)) (i + 1) 30 else 0) = _
    rw [if_neg (by omega), Int64.add_zero, mWl_eq C i]
theorem LFb_in (up : Bool) (C : Nat → Nat) (wl : Int64) : ∀ n j, (∀ i, i < j → 0 ≤ bto up (n + i) ∧ bto up (n + i) ≤ 599) → LFb up C wl (n + j) = LFb up C wl n
  | _, 0, _ => rfl
  | n, j + 1, h => by
    show (if 0 ≤ bto up (n + j) ∧ bto up (n + j) ≤ 599 then LFb up C wl (n + j) else _) = _
    rw [if_pos (h j (by omega)), LFb_in up C wl n j (fun i hi => h i (by omega))]
theorem LFb_out (up : Bool) (C : Nat → Nat) (wl : Int64) (k : Nat) : ∀ j, (∀ i, i < j → ¬ (0 ≤ bto up (30 * k + i) ∧ bto up (30 * k + i) ≤ 599)) → LFb up C wl (30 * k + j) = LFb up C wl (30 * k) + row C k j
  | 0, _ => by
    show _ = _ + (0 : Int64)
    rw [Int64.add_zero]; rfl
  | j + 1, h => by
    show (if 0 ≤ bto up (30 * k + j) ∧ bto up (30 * k + j) ≤ 599 then LFb up C wl (30 * k + j) else LFb up C wl (30 * k + j) + wtm (C (30 * k + j)) ((30 * k + j) % 3 + 1)) = _ + (row C k j + wat C (30 * k + j))
    rw [if_neg (h j (by omega)), LFb_out up C wl k j (fun i hi => h i (by omega)), wtm_eq, Int64.add_assoc]
    rfl
theorem LFb_up (C : Nat → Nat) (wl : Int64) : LFb true C wl 600 = wl + row C 19 30 := by
  have e : ∀ m, bto true m = (m : Int) + 30 := fun m => if_pos rfl
  have h1 := LFb_in true C wl 0 570 (fun i hi => by rw [e]; omega)
  have h2 := LFb_out true C wl 19 30 (fun i hi => by rw [e]; omega)
  rw [show 600 = 30 * 19 + 30 from rfl, h2, show 30 * 19 = 0 + 570 from rfl, h1]
  rfl
theorem LFb_dn (C : Nat → Nat) (wl : Int64) : LFb false C wl 600 = wl + row C 0 30 := by
  have e : ∀ m, bto false m = (m : Int) - 30 := fun m => if_neg (by decide)
  have h1 := LFb_in false C wl 30 570 (fun i hi => by rw [e]; omega)
  have h2 := LFb_out false C wl 0 30 (fun i hi => by rw [e]; omega)
  rw [show 600 = 30 + 570 from rfl, h1, show 30 = 30 * 0 + 30 from rfl, h2]
  rfl
/-! ===== one minute, both ways ===== -/
theorem lan_congr {me k : Nat} {C C' : Nat → Nat} (hk : k < 20) (h : ∀ x, x < 600 → C x = C' x) : ∀ j, j ≤ 30 → lan me C k j = lan me C' k j
  | 0, _ => rfl
  | j + 1, hj => by
    show lan me C k j + (if dfl me (30 * k + j) = 600 + k then wtr _ (C (30 * k + j)) else 0) = lan me C' k j + (if dfl me (30 * k + j) = 600 + k then wtr _ (C' (30 * k + j)) else 0)
    rw [lan_congr hk h j (by omega), h _ (by omega)]
theorem row_congr {k : Nat} {C C' : Nat → Nat} (hk : k < 20) (h : ∀ x, x < 600 → C x = C' x) : ∀ j, j ≤ 30 → row C k j = row C' k j
  | 0, _ => rfl
  | j + 1, hj => by
    show row C k j + wtr _ (C (30 * k + j)) = row C' k j + wtr _ (C' (30 * k + j))
    rw [row_congr hk h j (by omega), h _ (by omega)]
def R9 (v : MV) (w : MM) : Prop := (∀ x, x < 600 → v.1 x = w.1 x) ∧ (∀ k, k < 20 → v.2.1 k = w.2.2.1 k) ∧ (∀ k, k < 20 → v.2.2.1 k = w.2.2.2.1 k) ∧ v.2.2.2.1 = w.2.2.2.2.2
theorem R9_po {me dp nu : Nat} {up : Bool} {UP CL : Nat → Bool} {v : MV} {w : MM} (h : R9 v w) : R9 (po me dp up UP CL nu v) (pm9 me dp up UP CL nu w) := by
  obtain ⟨h1, h2, h3, h4⟩ := h
  have f1 : ∀ x, x < 600 → GC me v.1 20 x = (fl9 me UP CL w).1 x := by
    intro x hx
    show _ = NXf me w.1 (clr 0 w.2.1 600) 600 x
    rw [GC_eq me v.1 hx, NXf_eq me w.1 _ hx 600 (by omega), clr_eq, if_pos hx, Nat.zero_add]
    exact tot_congr 600 (fun m hm => ⟨rfl, h1 m hm⟩)
  have fl : ∀ k, k < 20 → GLd me v.1 k = FAf me w.1 (clr 0 w.2.2.2.2.1 20) 600 k := by
    intro k hk
    rw [GLd_eq me v.1 hk, FAf_eq me w.1 _ hk (by rw [clr_eq, if_pos hk])]
    exact lan_congr hk h1 30 (by omega)
  have f2 : ∀ k, k < 20 → GG me v.1 v.2.1 20 k = (fl9 me UP CL w).2.2.1 k := by
    intro k hk
    show _ = GRm w.2.2.1 _ 20 k
    rw [GG_eq, GRm_eq, if_pos hk, if_pos hk, h2 k hk, fl k hk]
  have f3 : ∀ k, k < 20 → GO me v.1 UP CL v.2.2.1 20 k = (fl9 me UP CL w).2.2.2.1 k := by
    intro k hk
    show _ = COm UP CL w.2.2.2.1 _ 20 k
    rw [GO_eq, COm_eq, if_pos hk, if_pos hk, h3 k hk, fl k hk]
  have f4 : v.2.2.2.1 = (fl9 me UP CL w).2.2.2.2.2 := h4
  unfold pm9
  rcases Decidable.em (0 < dp ∧ nu % dp = 0) with hd | hd
  · rw [if_pos hd]
    generalize fl9 me UP CL w = w1 at f1 f2 f3 f4
    refine ⟨fun x hx => ?_, f2, f3, ?_⟩
    · show drM (stp dp up nu) (GC me v.1 20) x = NXb up w1.1 (clr 0 w1.2.1 600) 600 x
      rw [NXb_eq up w1.1 _ hx 600 (by omega), clr_eq, if_pos hx, Nat.zero_add, tot_congr (C' := GC me v.1 20) (d' := dbl0 up) 600 (fun m hm => ⟨rfl, (f1 m hm).symm⟩)]
      cases up
      · rw [show stp dp false nu = -1 by unfold stp; rw [if_neg (by omega)]; rfl]
        show mW (GC me v.1 20) 20 x = _
        exact mW_tot _ hx
      · rw [show stp dp true nu = 1 by unfold stp; rw [if_neg (by omega)]; rfl]
        show mU (GC me v.1 20) 20 x = _
        exact mU_tot _ hx
    · show drW (stp dp up nu) (GC me v.1 20) v.2.2.2.1 = LFb up w1.1 w1.2.2.2.2.2 600
      cases up
      · rw [show stp dp false nu = -1 by unfold stp; rw [if_neg (by omega)]; rfl, LFb_dn, ← f4, row_congr (C := w1.1) (C' := GC me v.1 20) (by omega) (fun x hx => (f1 x hx).symm) 30 (by omega)]
        show v.2.2.2.1 + mWl (GC me v.1 20) 20 = _
        rw [mWl_eq]
      · rw [show stp dp true nu = 1 by unfold stp; rw [if_neg (by omega)]; rfl, LFb_up, ← f4, row_congr (C := w1.1) (C' := GC me v.1 20) (by omega) (fun x hx => (f1 x hx).symm) 30 (by omega)]
        show v.2.2.2.1 + mUl (GC me v.1 20) 20 = _
        rw [mUl_eq]
  · rw [if_neg hd]
    have hs : stp dp up nu = 0 := by unfold stp; rw [if_pos (by omega)]
    refine ⟨fun x hx => ?_, f2, f3, ?_⟩
    · show drM (stp dp up nu) (GC me v.1 20) x = _
      rw [hs]
      exact f1 x hx
    · show drW (stp dp up nu) (GC me v.1 20) v.2.2.2.1 = _
      rw [hs]
      exact f4
theorem R9_pv {me dp mi : Nat} {up : Bool} {UP CL : Nat → Bool} {v : MV} {w : MM} (h : R9 v w) : ∀ n, R9 (pv me dp up UP CL mi v n) (pmv me dp up UP CL mi w n)
  | 0 => h
  | n + 1 => R9_po (R9_pv h n)
/-! ===== drops followed one put after the other ===== -/
theorem tot_add {d A B : Nat → Nat} {x : Nat} : ∀ n, tot d (fun y => A y + B y) x n = tot d A x n + tot d B x n
  | 0 => rfl
  | n + 1 => by
    show tot d _ x n + (if d n = x then A n + B n else 0) = tot d A x n + (if d n = x then A n else 0) + (tot d B x n + if d n = x then B n else 0)
    rw [tot_add n]
    split <;> omega
theorem tot_z {d : Nat → Nat} {x : Nat} : ∀ n, tot d (fun _ => 0) x n = 0
  | 0 => rfl
  | n + 1 => by
    show tot d _ x n + (if d n = x then 0 else 0) = 0
    rw [tot_z n, ite_self]
theorem tot_s {d : Nat → Nat} {x p m : Nat} : ∀ n, tot d (fun y => if p = y then m else 0) x n = if p < n ∧ d p = x then m else 0
  | 0 => by
    rw [if_neg (by omega)]
    rfl
  | n + 1 => by
    show tot d _ x n + (if d n = x then (if p = n then m else 0) else 0) = _
    rw [tot_s n]
    rcases Decidable.em (p = n) with e | e
    · rw [if_neg (by omega), if_pos e, e]
      rcases Decidable.em (d n = x) with h | h
      · rw [if_pos h, if_pos ⟨by omega, h⟩, Nat.zero_add]
      · rw [if_neg h, if_neg (fun z => h z.2)]
    · rw [if_neg e, ite_self, Nat.add_zero]
      rcases Decidable.em (p < n ∧ d p = x) with h | h
      · rw [if_pos h, if_pos ⟨by omega, h.2⟩]
      · rw [if_neg h, if_neg (fun z => h ⟨by omega, z.2⟩)]
theorem tot_comp' {d pos PN : Nat → Nat} {x : Nat} (hd : ∀ y, 600 ≤ y → d y ≠ x) : ∀ n, tot d (fun y => tot pos PN y n) x 600 = tot (fun i => d (pos i)) PN x n
  | 0 => tot_z 600
  | n + 1 => by
    show tot d (fun y => tot pos PN y n + (if pos n = y then PN n else 0)) x 600 = tot _ PN x n + (if d (pos n) = x then PN n else 0)
    rw [tot_add (A := fun y => tot pos PN y n) (B := fun y => if pos n = y then PN n else 0) 600, tot_comp' hd n, tot_s]
    rcases Decidable.em (d (pos n) = x) with h | h
    · rw [if_pos h, if_pos ⟨Nat.lt_of_not_le fun z => hd _ z h, h⟩]
    · rw [if_neg h, if_neg (fun z => h z.2)]
theorem tot_comp {d pos PN C : Nat → Nat} {x n : Nat} (hC : ∀ y, y < 600 → C y = tot pos PN y n) (hd : ∀ y, 600 ≤ y → d y ≠ x) : tot d C x 600 = tot (fun i => d (pos i)) PN x n := by
  rw [← tot_comp' hd n]
  exact tot_congr 600 (fun m hm => ⟨rfl, hC m hm⟩)
theorem tot_le {pos PN : Nat → Nat} {x : Nat} : ∀ n, (∀ i, i < n → PN i ≤ 1000) → tot pos PN x n ≤ 1000 * n
  | 0, _ => Nat.le_refl _
  | n + 1, h => by
    have h1 := tot_le (pos := pos) (x := x) n (fun i hi => h i (by omega))
    have h2 := h n (by omega)
    show tot pos PN x n + (if pos n = x then PN n else 0) ≤ _
    split <;> omega
theorem nI_64 {a : Nat} (h : a < 2147483648) : (nI a).toInt64 = Int64.ofInt a := by
  rw [← nT h]
  exact (Int64.ofInt_int32ToInt _).symm
theorem wtr_add {si a b : Nat} (h : a + b < 2147483648) : wtr si (a + b) = wtr si a + wtr si b := by
  unfold wtr
  rw [nI_64 h, nI_64 (by omega), nI_64 (by omega), ← Int64.mul_add, ← Int64.ofInt_add]
  rfl
theorem wtr_0 (si : Nat) : wtr si 0 = 0 := Int64.mul_zero
theorem lan_add {me k : Nat} {A B : Nat → Nat} (hk : k < 20) (hb : ∀ y, y < 600 → A y + B y < 2147483648) : ∀ j, j ≤ 30 → lan me (fun y => A y + B y) k j = lan me A k j + lan me B k j
  | 0, _ => rfl
  | j + 1, hj => by
    show lan me (fun y => A y + B y) k j + (if dfl me (30 * k + j) = 600 + k then wtr ((30 * k + j) % 3 + 1) (A (30 * k + j) + B (30 * k + j)) else 0) = lan me A k j + (if dfl me (30 * k + j) = 600 + k then wtr ((30 * k + j) % 3 + 1) (A (30 * k + j)) else 0) + (lan me B k j + if dfl me (30 * k + j) = 600 + k then wtr ((30 * k + j) % 3 + 1) (B (30 * k + j)) else 0)
    rw [lan_add hk hb j (by omega)]
    split
    · rw [wtr_add (hb _ (by omega))]
      ac_rfl
    · rw [Int64.add_zero, Int64.add_zero, Int64.add_zero]
theorem lan_z {me k : Nat} : ∀ j, lan me (fun _ => 0) k j = 0
  | 0 => rfl
  | j + 1 => by
    show lan me _ k j + (if dfl me (30 * k + j) = 600 + k then wtr _ 0 else 0) = 0
    rw [lan_z j, wtr_0, ite_self]
    rfl
theorem lan_s {me k p m : Nat} : ∀ j, lan me (fun y => if p = y then m else 0) k j = if (30 * k ≤ p ∧ p < 30 * k + j) ∧ dfl me p = 600 + k then wtr (p % 3 + 1) m else 0
  | 0 => by
    rw [if_neg (by omega)]
    rfl
  | j + 1 => by
    show lan me _ k j + (if dfl me (30 * k + j) = 600 + k then wtr ((30 * k + j) % 3 + 1) (if p = 30 * k + j then m else 0) else 0) = _
    rw [lan_s j]
    rcases Decidable.em (p = 30 * k + j) with e | e
    · rw [if_neg (by omega), if_pos e, Int64.zero_add, e]
      rcases Decidable.em (dfl me (30 * k + j) = 600 + k) with h | h
      · rw [if_pos h, if_pos ⟨by omega, h⟩]
      · rw [if_neg h, if_neg (fun z => h z.2)]
    · rw [if_neg e, wtr_0, ite_self, Int64.add_zero]
      rcases Decidable.em ((30 * k ≤ p ∧ p < 30 * k + j) ∧ dfl me p = 600 + k) with h | h
      · rw [if_pos h, if_pos ⟨by omega, h.2⟩]
      · rw [if_neg h, if_neg (fun z => h ⟨by omega, z.2⟩)]
/-- what a minute adds to the ground of k, put by put -/
def gls (me k : Nat) (pos PN : Nat → Nat) : Nat → Int64 | 0 => 0 | i + 1 => gls me k pos PN i + if pos i < 600 ∧ dfl me (pos i) = 600 + k then wtr (pos i % 3 + 1) (PN i) else 0
theorem gls_eq {me k : Nat} {pos PN : Nat → Nat} (hk : k < 20) : ∀ n, n ≤ 100 → (∀ i, i < n → PN i ≤ 1000) → lan me (fun y => tot pos PN y n) k 30 = gls me k pos PN n
  | 0, _, _ => lan_z 30
  | n + 1, hn, h => by
    have h1 : ∀ y, tot pos PN y n ≤ 1000 * n := fun y => tot_le n (fun i hi => h i (by omega))
    have h2 := h n (by omega)
    show lan me (fun y => tot pos PN y n + (if pos n = y then PN n else 0)) k 30 = gls me k pos PN n + _
    rw [lan_add (A := fun y => tot pos PN y n) (B := fun y => if pos n = y then PN n else 0) hk (fun y _ => by have := h1 y; show tot pos PN y n + (if pos n = y then PN n else 0) < _; split <;> omega) 30 (by omega), gls_eq hk n (by omega) (fun i hi => h i (by omega)), lan_s]
    rcases Decidable.em (pos n < 600 ∧ dfl me (pos n) = 600 + k) with e | e
    · have e2 := (dfl_g e.1).mp e.2
      rw [if_pos e, if_pos ⟨by omega, e.2⟩]
    · rw [if_neg e, if_neg (fun z => e ⟨by omega, z.2⟩)]
/-- one minute's move, in two steps -/
def mv1 (me x : Nat) : Nat := if x < 600 then dfl me x else x
def mv2 (st : Int) (x : Nat) : Nat := if x < 600 then (if st = 1 then dbl0 true x else if st = -1 then dbl0 false x else x) else x
theorem mvp_eq {me x : Nat} {st : Int} (hs : st = 0 ∨ st = 1 ∨ st = -1) : mvp me st x = mv2 st (mv1 me x) := by
  have hb := faN_b x me
  have eT : ∀ m, bto true m = (m : Int) + 30 := fun m => if_pos rfl
  have eF : ∀ m, bto false m = (m : Int) - 30 := fun m => if_neg (by decide)
  unfold mvp mv1
  rcases Decidable.em (x < 600) with h | h
  · rw [if_pos h, if_pos h]
    unfold dfl
    rcases Decidable.em (x / 3 % 10 < faN (x / 3 % 10) (x % 3 + 1) me) with h2 | h2
    · rw [if_pos h2, if_pos h2]
      unfold mv2
      rw [if_neg (by omega)]
    · rw [if_neg h2, if_neg h2]
      generalize faN (x / 3 % 10) (x % 3 + 1) me = fa at hb h2
      have e3 : x % 30 - 3 * fa = (x - 3 * fa) % 30 := by omega
      have e4 : x / 30 = (x - 3 * fa) / 30 := by omega
      rw [e3, e4]
      have hq : x - 3 * fa < 600 := by omega
      generalize x - 3 * fa = q at hq
      unfold mv2
      rw [if_pos hq]
      rcases hs with hs | hs | hs
      · subst hs
        rw [if_neg (show ¬ (((q / 30 : Nat) : Int) + 0 < 0 ∨ 20 ≤ ((q / 30 : Nat) : Int) + 0) by omega), if_neg (by decide), if_neg (by decide)]
        omega
      · subst hs
        rw [if_pos rfl]
        unfold dbl0
        rw [eT]
        split <;> split <;> omega
      · subst hs
        rw [if_neg (show ¬ (-1 : Int) = 1 by decide), if_pos rfl]
        unfold dbl0
        rw [eF]
        split <;> split <;> omega
  · rw [if_neg h, if_neg h]
    unfold mv2
    rw [if_neg h]
theorem dbl0_c {up : Bool} {x : Nat} (h : x < 600) : (dbl0 up x < 600 ∧ dbl0 up x % 3 = x % 3) ∨ dbl0 up x = 620 := by
  have e : bto up x = (x : Int) + 30 ∨ bto up x = (x : Int) - 30 := by
    cases up
    · exact Or.inr (if_neg (by decide))
    · exact Or.inl (if_pos rfl)
  unfold dbl0
  rcases e with e | e <;> rw [e] <;> split <;> omega
theorem mv2_c {st : Int} {x : Nat} (h : x < 600) : (mv2 st x < 600 ∧ mv2 st x % 3 = x % 3) ∨ mv2 st x = 620 := by
  unfold mv2
  rw [if_pos h]
  split
  · exact dbl0_c h
  · split
    · exact dbl0_c h
    · exact Or.inl ⟨h, rfl⟩
theorem mv1_c {me x : Nat} (h : x < 600) : (mv1 me x < 600 ∧ mv1 me x % 3 = x % 3) ∨ (600 ≤ mv1 me x ∧ mv1 me x < 620) := by
  have hb := faN_b x me
  unfold mv1 dfl
  rw [if_pos h]
  split <;> omega
theorem mvp_c {me x : Nat} {st : Int} (hs : st = 0 ∨ st = 1 ∨ st = -1) (h : mvp me st x < 600) : x < 600 ∧ mvp me st x % 3 = x % 3 := by
  rw [mvp_eq hs] at h ⊢
  rcases Decidable.em (x < 600) with hx | hx
  · refine ⟨hx, ?_⟩
    rcases mv1_c (me := me) hx with h1 | h1
    · rcases mv2_c (st := st) h1.1 with h2 | h2
      · omega
      · omega
    · have : mv2 st (mv1 me x) = mv1 me x := if_neg (by omega)
      omega
  · have e1 : mv1 me x = x := if_neg hx
    have : mv2 st (mv1 me x) = mv1 me x := if_neg (by omega)
    omega
theorem mvp_g {me x k : Nat} {st : Int} (hs : st = 0 ∨ st = 1 ∨ st = -1) (hk : k < 20) : mvp me st x = 600 + k ↔ (x = 600 + k ∨ (x < 600 ∧ dfl me x = 600 + k)) := by
  rw [mvp_eq hs]
  rcases Decidable.em (x < 600) with hx | hx
  · have e1 : mv1 me x = dfl me x := if_pos hx
    rcases mv1_c (me := me) hx with h1 | h1
    · rcases mv2_c (st := st) h1.1 with h2 | h2 <;> omega
    · have : mv2 st (mv1 me x) = mv1 me x := if_neg (by omega)
      omega
  · have e1 : mv1 me x = x := if_neg hx
    have : mv2 st (mv1 me x) = mv1 me x := if_neg (by omega)
    omega
theorem trk_mod {ML : Nat → Nat} {SP : Nat → Int} {x0 pm : Nat} (hs : ∀ n, SP n = 0 ∨ SP n = 1 ∨ SP n = -1) : ∀ j, trk ML SP x0 pm j < 600 → trk ML SP x0 pm j % 3 = x0 % 3
  | 0, _ => rfl
  | j + 1, h => by
    have h1 := mvp_c (hs (pm + 1 + j)) (x := trk ML SP x0 pm j) (me := ML (pm + 1 + j)) h
    have h2 := trk_mod hs j h1.1
    show mvp _ _ (trk ML SP x0 pm j) % 3 = _
    rw [h1.2, h2]
theorem trk_congr {ML ML' : Nat → Nat} {SP SP' : Nat → Int} {x0 pm : Nat} : ∀ j, (∀ n, n < pm + 1 + j → ML n = ML' n ∧ SP n = SP' n) → trk ML SP x0 pm j = trk ML' SP' x0 pm j
  | 0, _ => rfl
  | j + 1, h => by
    show mvp (ML (pm + 1 + j)) (SP (pm + 1 + j)) (trk ML SP x0 pm j) = mvp (ML' (pm + 1 + j)) (SP' (pm + 1 + j)) (trk ML' SP' x0 pm j)
    rw [trk_congr j (fun n hn => h n (by omega)), (h _ (by omega)).1, (h _ (by omega)).2]
/-- all that the past says of the air and of the ground -/
def PI (C : Nat → Nat) (GR : Nat → Int64) (PK PL PS PN PM ML : Nat → Nat) (SP : Nat → Int) (mi pn : Nat) : Prop :=
  (∀ x, x < 600 → C x = tot (psn PK PL PS PM ML SP mi) PN x pn) ∧ (∀ k, k < 20 → GR k = GAn PK PL PS PN PM ML SP mi k pn) ∧ (∀ i, i < pn → PK i < 20 ∧ PL i < 10 ∧ 1 ≤ PS i ∧ PS i ≤ 3 ∧ PN i ≤ 1000 ∧ PM i ≤ mi) ∧ pn ≤ 100 ∧ (∀ n, ML n < 10) ∧ (∀ n, SP n = 0 ∨ SP n = 1 ∨ SP n = -1)
theorem PI_le {C : Nat → Nat} {GR : Nat → Int64} {PK PL PS PN PM ML : Nat → Nat} {SP : Nat → Int} {mi pn : Nat} (h : PI C GR PK PL PS PN PM ML SP mi pn) {x : Nat} (hx : x < 600) : C x ≤ 100000 := by
  obtain ⟨h1, h2, h3, h4, h5, h6⟩ := h
  rw [h1 x hx]
  exact Nat.le_trans (tot_le pn (fun i hi => (h3 i hi).2.2.2.2.1)) (by omega)
theorem PI_min {C : Nat → Nat} {GR : Nat → Int64} {PK PL PS PN PM ML : Nat → Nat} {SP : Nat → Int} {mi pn me : Nat} {st : Int} (hme : me < 10) (hst : st = 0 ∨ st = 1 ∨ st = -1) (h : PI C GR PK PL PS PN PM ML SP mi pn) : PI (drM st (GC me C 20)) (GG me C GR 20) PK PL PS PN PM (uN ML (mi + 1) me) (uN SP (mi + 1) st) (mi + 1) pn := by
  obtain ⟨h1, h2, h3, h4, h5, h6⟩ := h
  have hp : ∀ i, i < pn → psn PK PL PS PM (uN ML (mi + 1) me) (uN SP (mi + 1) st) (mi + 1) i = mvp me st (psn PK PL PS PM ML SP mi i) := by
    intro i hi
    have hm := (h3 i hi).2.2.2.2.2
    unfold psn
    rw [show mi + 1 - PM i = (mi - PM i) + 1 by omega]
    show mvp (uN ML (mi + 1) me (PM i + 1 + (mi - PM i))) (uN SP (mi + 1) st (PM i + 1 + (mi - PM i))) (trk _ _ _ _ (mi - PM i)) = _
    rw [show PM i + 1 + (mi - PM i) = mi + 1 by omega, uN_s, uN_s]
    congr 1
    exact trk_congr _ (fun n hn => ⟨uN_n (by omega), uN_n (by omega)⟩)
  have hm3 : ∀ i, i < pn → psn PK PL PS PM ML SP mi i < 600 → psn PK PL PS PM ML SP mi i % 3 + 1 = PS i := by
    intro i hi hl
    have h7 := h3 i hi
    have h8 : psn PK PL PS PM ML SP mi i % 3 = xput PK PL PS i % 3 := trk_mod h6 _ hl
    have h9 : xput PK PL PS i = 30 * PK i + 3 * PL i + (PS i - 1) := rfl
    omega
  have g1 : ∀ x, x < 600 → GC me C 20 x = tot (fun i => mv1 me (psn PK PL PS PM ML SP mi i)) PN x pn := by
    intro x hx
    rw [GC_eq me C hx, tot_congr (d' := mv1 me) (C' := C) 600 (fun m hm => ⟨(if_pos hm).symm, rfl⟩)]
    exact tot_comp h1 (fun y hy => by rw [show mv1 me y = y from if_neg (by omega)]; omega)
  refine ⟨fun x hx => ?_, fun k hk => ?_, fun i hi => ?_, h4, fun n => ?_, fun n => ?_⟩
  · have g2 : tot (psn PK PL PS PM (uN ML (mi + 1) me) (uN SP (mi + 1) st) (mi + 1)) PN x pn = tot (fun i => mv2 st (mv1 me (psn PK PL PS PM ML SP mi i))) PN x pn :=
      tot_congr pn (fun i hi => ⟨by rw [hp i hi, mvp_eq hst], rfl⟩)
    rw [g2, ← tot_comp (d := mv2 st) (pos := fun i => mv1 me (psn PK PL PS PM ML SP mi i)) g1 (fun y hy => by rw [show mv2 st y = y from if_neg (by omega)]; omega)]
    unfold drM
    rcases Decidable.em (st = 1) with e | e
    · rw [if_pos e, mU_tot _ hx]
      exact tot_congr 600 (fun m hm => ⟨by unfold mv2; rw [if_pos hm, if_pos e], rfl⟩)
    · rw [if_neg e]
      rcases Decidable.em (st = -1) with e2 | e2
      · rw [if_pos e2, mW_tot _ hx]
        exact tot_congr 600 (fun m hm => ⟨by unfold mv2; rw [if_pos hm, if_neg e, if_pos e2], rfl⟩)
      · rw [if_neg e2, tot_1 (y := x) (by unfold mv2; rw [if_pos hx, if_neg e, if_neg e2]) (fun m hm => by unfold mv2; rw [if_neg e, if_neg e2, ite_self]; exact hm), if_pos hx]
  · rw [GG_eq, if_pos hk, GLd_eq me C hk, lan_congr (C' := fun y => tot (psn PK PL PS PM ML SP mi) PN y pn) hk h1 30 (by omega), gls_eq hk pn h4 (fun i hi => (h3 i hi).2.2.2.2.1), h2 k hk]
    have key : ∀ n, n ≤ pn → GAn PK PL PS PN PM ML SP mi k n + gls me k (psn PK PL PS PM ML SP mi) PN n = GAn PK PL PS PN PM (uN ML (mi + 1) me) (uN SP (mi + 1) st) (mi + 1) k n := by
      intro n
      induction n with
      | zero => intro _; rfl
      | succ n ih =>
        intro hn
        have ih := ih (by omega)
        have hg := mvp_g (me := me) (x := psn PK PL PS PM ML SP mi n) hst hk
        have h3m := hm3 n (by omega)
        show (if psn PK PL PS PM ML SP mi n = 600 + k then GAn PK PL PS PN PM ML SP mi k n + wtr (PS n) (PN n) else GAn PK PL PS PN PM ML SP mi k n) + (gls me k (psn PK PL PS PM ML SP mi) PN n + if psn PK PL PS PM ML SP mi n < 600 ∧ dfl me (psn PK PL PS PM ML SP mi n) = 600 + k then wtr (psn PK PL PS PM ML SP mi n % 3 + 1) (PN n) else 0) = (if psn PK PL PS PM (uN ML (mi + 1) me) (uN SP (mi + 1) st) (mi + 1) n = 600 + k then GAn PK PL PS PN PM (uN ML (mi + 1) me) (uN SP (mi + 1) st) (mi + 1) k n + wtr (PS n) (PN n) else GAn PK PL PS PN PM (uN ML (mi + 1) me) (uN SP (mi + 1) st) (mi + 1) k n)
        rw [hp n (by omega), ← ih]
        rcases Decidable.em (psn PK PL PS PM ML SP mi n = 600 + k) with e | e
        · rw [if_pos e, if_neg (by omega), if_pos (hg.mpr (Or.inl e)), Int64.add_zero]
          ac_rfl
        · rw [if_neg e]
          rcases Decidable.em (psn PK PL PS PM ML SP mi n < 600 ∧ dfl me (psn PK PL PS PM ML SP mi n) = 600 + k) with e2 | e2
          · rw [if_pos e2, if_pos (hg.mpr (Or.inr e2)), h3m e2.1, Int64.add_assoc]
          · rw [if_neg e2, if_neg (fun z => (hg.mp z).elim e e2), Int64.add_zero]
    exact key pn (Nat.le_refl _)
  · have h7 := h3 i hi
    omega
  · rcases Decidable.em (n = mi + 1) with e | e
    · rw [e, uN_s]; exact hme
    · rw [uN_n e]; exact h5 n
  · rcases Decidable.em (n = mi + 1) with e | e
    · rw [e, uN_s]; exact hst
    · rw [uN_n e]; exact h6 n
theorem PI_pv {GR : Nat → Int64} {PK PL PS PN PM : Nat → Nat} {mi pn me dp : Nat} {up : Bool} {UP CL : Nat → Bool} {v : MV} (hme : me < 10) (h : PI v.1 v.2.1 PK PL PS PN PM v.2.2.2.2.1 v.2.2.2.2.2 mi pn) : ∀ n, PI (pv me dp up UP CL mi v n).1 (pv me dp up UP CL mi v n).2.1 PK PL PS PN PM (pv me dp up UP CL mi v n).2.2.2.2.1 (pv me dp up UP CL mi v n).2.2.2.2.2 (mi + n) pn
  | 0 => h
  | n + 1 => PI_min hme (by unfold stp; split; exact Or.inl rfl; split; exact Or.inr (Or.inl rfl); exact Or.inr (Or.inr rfl)) (PI_pv (GR := GR) hme h n)
theorem PI_put {C : Nat → Nat} {GR : Nat → Int64} {PK PL PS PN PM ML : Nat → Nat} {SP : Nat → Int} {mi pn ki la si mn x0 : Nat} (hx0 : x0 = 30 * ki + 3 * la + (si - 1)) (hki : ki < 20) (hla : la < 10) (hs1 : 1 ≤ si) (hs3 : si ≤ 3) (hmn : mn ≤ 1000) (hpn : pn < 100) (h : PI C GR PK PL PS PN PM ML SP mi pn) : PI (uN C x0 (C x0 + mn)) GR (uN PK pn ki) (uN PL pn la) (uN PS pn si) (uN PN pn mn) (uN PM pn mi) ML SP mi (pn + 1) := by
  obtain ⟨h1, h2, h3, h4, h5, h6⟩ := h
  have hp : ∀ i, i < pn → psn (uN PK pn ki) (uN PL pn la) (uN PS pn si) (uN PM pn mi) ML SP mi i = psn PK PL PS PM ML SP mi i := by
    intro i hi
    unfold psn xput
    rw [uN_n (by omega), uN_n (by omega), uN_n (by omega), uN_n (by omega)]
  have hq : psn (uN PK pn ki) (uN PL pn la) (uN PS pn si) (uN PM pn mi) ML SP mi pn = x0 := by
    unfold psn xput
    rw [uN_s, uN_s, uN_s, uN_s, Nat.sub_self, hx0]
    rfl
  refine ⟨fun x hx => ?_, fun k hk => ?_, fun i hi => ?_, by omega, h5, h6⟩
  · show _ = tot _ (uN PN pn mn) x pn + (if psn (uN PK pn ki) (uN PL pn la) (uN PS pn si) (uN PM pn mi) ML SP mi pn = x then uN PN pn mn pn else 0)
    rw [hq, uN_s, tot_congr (d' := psn PK PL PS PM ML SP mi) (C' := PN) pn (fun i hi => ⟨hp i hi, uN_n (by omega)⟩), ← h1 x hx]
    rcases Decidable.em (x = x0) with e | e
    · rw [e, uN_s, if_pos rfl]
    · rw [uN_n e, if_neg (fun z => e z.symm)]
      rfl
  · have key : ∀ n, n ≤ pn → GAn (uN PK pn ki) (uN PL pn la) (uN PS pn si) (uN PN pn mn) (uN PM pn mi) ML SP mi k n = GAn PK PL PS PN PM ML SP mi k n := by
      intro n
      induction n with
      | zero => intro _; rfl
      | succ n ih =>
        intro hn
        have ih := ih (by omega)
        show (if psn (uN PK pn ki) (uN PL pn la) (uN PS pn si) (uN PM pn mi) ML SP mi n = 600 + k then GAn (uN PK pn ki) (uN PL pn la) (uN PS pn si) (uN PN pn mn) (uN PM pn mi) ML SP mi k n + wtr (uN PS pn si n) (uN PN pn mn n) else GAn (uN PK pn ki) (uN PL pn la) (uN PS pn si) (uN PN pn mn) (uN PM pn mi) ML SP mi k n) = _
        rw [ih, hp n (by omega), uN_n (by omega), uN_n (by omega)]
        rfl
    show _ = (if psn (uN PK pn ki) (uN PL pn la) (uN PS pn si) (uN PM pn mi) ML SP mi pn = 600 + k then _ else _)
    rw [hq, if_neg (by omega), key pn (Nat.le_refl _)]
    exact h2 k hk
  · rcases Decidable.em (i = pn) with e | e
    · rw [e, uN_s, uN_s, uN_s, uN_s, uN_s]
      omega
    · rw [uN_n e, uN_n e, uN_n e, uN_n e, uN_n e]
      exact h3 i (by omega)
/-! ===== echoes, beams and scans ===== -/
theorem cu1 : cu 1 = 1 := by decide
theorem cu2 : cu 2 = 8 := by decide
theorem cu3 : cu 3 = 27 := by decide
theorem pe_al (C : Nat → Nat) (n : Nat) : pe9 (fun z => C (n + z)) 3 = al9 C n := by
  show (0 : Int64) + cu 1 * cu 1 * (nI (C (n + 0))).toInt64 + cu 2 * cu 2 * (nI (C (n + 1))).toInt64 + cu 3 * cu 3 * (nI (C (n + 2))).toInt64 = (nI (C n)).toInt64 + 64 * (nI (C (n + 1))).toInt64 + 729 * (nI (C (n + 2))).toInt64
  rw [cu1, cu2, cu3, show (1 : Int64) * 1 = 1 from by decide, show (8 : Int64) * 8 = 64 from by decide, show (27 : Int64) * 27 = 729 from by decide, Int64.one_mul, Int64.zero_add]
  rfl
theorem pe_0 : pe9 (fun _ => 0) 3 = 0 := by decide
theorem em_eb (C : Nat → Nat) (me ki ev : Nat) : em9 C me ki ev = eb9 C me ki ev := by
  unfold em9 eb9 plE
  rcases Decidable.em (bmN ki ev < 10) with h | h
  · rw [if_neg (by omega), if_pos h, pe_al, Int64.mul_comm 3]
  · rw [if_pos (by omega), if_neg h, pe_0]
    split
    · decide
    · split <;> decide
theorem em_eb' (C : Nat → Nat) (me ev : Nat) : (fun aa => em9 C me aa ev) = (fun aa => eb9 C me aa ev) := funext fun _ => em_eb _ _ _ _
theorem i64b {z : Int} (h1 : 0 ≤ z) (h2 : z < 9223372036854775808) : (Int64.ofInt z).toInt = z := by
  rw [Int64.toInt_ofInt, show Int64.size = 18446744073709551616 from rfl, Int.bmod_eq_of_le (by omega) (by omega)]
theorem eb_b {C : Nat → Nat} {me ki ev : Nat} (hC : ∀ x, x < 600 → C x ≤ 100000) (hk : ki < 20) : 0 ≤ (eb9 C me ki ev).toInt ∧ (eb9 C me ki ev).toInt < 268435456 := by
  rw [← em_eb]
  unfold em9
  rcases Decidable.em (bmN ki ev < 10) with h | h
  · rw [if_neg (by omega)]
    have c0 := hC (30 * ki + 3 * bmN ki ev) (by omega)
    have c1 := hC (30 * ki + 3 * bmN ki ev + 1) (by omega)
    have c2 := hC (30 * ki + 3 * bmN ki ev + 2) (by omega)
    unfold al9
    generalize C (30 * ki + 3 * bmN ki ev) = a0 at c0
    generalize C (30 * ki + 3 * bmN ki ev + 1) = a1 at c1
    generalize C (30 * ki + 3 * bmN ki ev + 2) = a2 at c2
    rw [nI_64 (by omega), nI_64 (by omega), nI_64 (by omega), show (64 : Int64) = Int64.ofInt 64 from rfl, show (729 : Int64) = Int64.ofInt 729 from rfl, show (3 : Int64) = Int64.ofInt 3 from rfl, show (4 : Int64) = Int64.ofInt 4 from rfl, ← Int64.ofInt_mul, ← Int64.ofInt_mul, ← Int64.ofInt_add, ← Int64.ofInt_add]
    have hz : (0 : Int) ≤ (a0 : Int) + 64 * (a1 : Int) + 729 * (a2 : Int) ∧ (a0 : Int) + 64 * (a1 : Int) + 729 * (a2 : Int) ≤ 79400000 := by omega
    generalize (a0 : Int) + 64 * (a1 : Int) + 729 * (a2 : Int) = z at hz
    split
    · rw [Int64.toInt_div, i64b hz.1 (by omega), i64b (by omega) (by omega), Int.tdiv_eq_ediv_of_nonneg hz.1, Int.bmod_eq_of_le (by omega) (by omega)]
      omega
    · split
      · rw [← Int64.ofInt_mul, i64b (by omega) (by omega)]
        omega
      · rw [i64b (by omega) (by omega)]
        omega
  · rw [if_pos (by omega)]
    decide
theorem rch_sp (HI : Nat → Nat) (ev : Nat) : ∀ n i, i ≤ rch HI ev n i ∧ rch HI ev n i ≤ i + n ∧ (∀ j, i ≤ j → j < rch HI ev n i → ¬ bmN j ev < HI j) ∧ (rch HI ev n i < i + n → bmN (rch HI ev n i) ev < HI (rch HI ev n i))
  | 0, i => ⟨Nat.le_refl _, Nat.le_refl _, fun j h1 h2 => absurd h2 (Nat.not_lt.mpr h1), fun h => absurd h (Nat.lt_irrefl _)⟩
  | n + 1, i => by
    have ih := rch_sp HI ev n (i + 1)
    rcases Decidable.em (bmN i ev < HI i) with h | h
    · have e : rch HI ev (n + 1) i = i := if_pos h
      rw [e]
      exact ⟨Nat.le_refl _, by omega, fun j h1 h2 => by omega, fun _ => h⟩
    · have e : rch HI ev (n + 1) i = rch HI ev n (i + 1) := if_neg h
      rw [e]
      refine ⟨by omega, by omega, fun j h1 h2 => ?_, fun h3 => ih.2.2.2 (by omega)⟩
      rcases Decidable.em (j = i) with e2 | e2
      · rw [e2]; exact h
      · exact ih.2.2.1 j (by omega) h2
theorem blk_sp (HI : Nat → Nat) (ev : Nat) : ∀ n, blk HI ev n = true ↔ ∃ j, j < n ∧ bmN j ev < HI j
  | 0 => by
    constructor
    · intro h; cases h
    · intro ⟨j, h, _⟩; omega
  | n + 1 => by
    show (blk HI ev n || decide (bmN n ev < HI n)) = true ↔ _
    rw [Bool.or_eq_true, decide_eq_true_iff, blk_sp HI ev n]
    constructor
    · rintro (⟨j, h1, h2⟩ | h)
      · exact ⟨j, by omega, h2⟩
      · exact ⟨n, by omega, h⟩
    · rintro ⟨j, h1, h2⟩
      rcases Decidable.em (j = n) with e | e
      · exact Or.inr (e ▸ h2)
      · exact Or.inl ⟨j, by omega, h2⟩
theorem blk_rch {HI : Nat → Nat} {ev ki : Nat} (hk : ki < 20) : blk HI ev (ki + 1) = true ↔ rch HI ev 20 0 ≤ ki := by
  obtain ⟨h1, h2, h3, h4⟩ := rch_sp HI ev 20 0
  rw [blk_sp]
  constructor
  · rintro ⟨j, h5, h6⟩
    refine Nat.le_of_not_lt fun h => h3 j (by omega) (by omega) h6
  · intro h
    exact ⟨_, by omega, h4 (by omega)⟩
theorem ubk_eq (HI : Nat → Nat) (ev : Nat) : ∀ n, n ≤ 20 → ubk HI ev n = if n ≤ rch HI ev 20 0 then n else rch HI ev 20 0
  | 0, _ => by
    rw [if_pos (by omega)]; rfl
  | n + 1, hn => by
    have hb := blk_rch (HI := HI) (ev := ev) (ki := n) (by omega)
    show ubk HI ev n + (if blk HI ev (n + 1) = true then 0 else 1) = _
    rw [ubk_eq HI ev n (by omega)]
    rcases Decidable.em (blk HI ev (n + 1) = true) with h | h
    · have h2 := hb.mp h
      rw [if_pos h, if_neg (show ¬ n + 1 ≤ rch HI ev 20 0 by omega)]
      split <;> omega
    · have h2 : ¬ rch HI ev 20 0 ≤ n := fun z => h (hb.mpr z)
      rw [if_neg h, if_pos (show n + 1 ≤ rch HI ev 20 0 by omega), if_pos (show n ≤ rch HI ev 20 0 by omega)]
theorem ubk_rch (HI : Nat → Nat) (ev : Nat) : ubk HI ev 20 = rch HI ev 20 0 := by
  have h := (rch_sp HI ev 20 0).2.1
  rw [ubk_eq HI ev 20 (by omega)]
  split <;> omega
theorem scE_eq (C : Nat → Nat) (me ev : Nat) (EC : Nat → Int64) (sm : Nat) : ∀ n x, scE C me ev EC sm n x = if 20 * sm ≤ x ∧ x < 20 * sm + n then eb9 C me (x - 20 * sm) ev else EC x
  | 0, x => by
    rw [if_neg (by omega)]; rfl
  | n + 1, x => by
    show uN (scE C me ev EC sm n) (20 * sm + n) (eb9 C me n ev) x = _
    rcases Decidable.em (x = 20 * sm + n) with e | e
    · rw [e, uN_s, if_pos (by omega), show 20 * sm + n - 20 * sm = n by omega]
    · rw [uN_n e, scE_eq C me ev EC sm n x]
      rcases Decidable.em (20 * sm ≤ x ∧ x < 20 * sm + n) with h | h
      · rw [if_pos h, if_pos (by omega)]
      · rw [if_neg h, if_neg (by omega)]
theorem scM_eq (HI C : Nat → Nat) (me ev : Nat) (EC : Nat → Int64) (sm : Nat) : ∀ n x, scM HI C me ev EC sm n x = if 20 * sm ≤ x ∧ x < 20 * sm + n then (if blk HI ev (x - 20 * sm + 1) = true then 0 else em9 C me (x - 20 * sm) ev) else EC x
  | 0, x => by
    rw [if_neg (by omega)]; rfl
  | n + 1, x => by
    show uN (scM HI C me ev EC sm n) (20 * sm + n) (if blk HI ev (n + 1) = true then 0 else em9 C me n ev) x = _
    rcases Decidable.em (x = 20 * sm + n) with e | e
    · rw [e, uN_s, if_pos (show 20 * sm ≤ 20 * sm + n ∧ 20 * sm + n < 20 * sm + (n + 1) by omega), show 20 * sm + n - 20 * sm = n by omega]
    · rw [uN_n e, scM_eq HI C me ev EC sm n x]
      rcases Decidable.em (20 * sm ≤ x ∧ x < 20 * sm + n) with h | h
      · rw [if_pos h, if_pos (show 20 * sm ≤ x ∧ x < 20 * sm + (n + 1) by omega)]
      · rw [if_neg h, if_neg (show ¬ (20 * sm ≤ x ∧ x < 20 * sm + (n + 1)) by omega)]
theorem sc9_eq {HI C : Nat → Nat} {me ev : Nat} {EC : Nat → Int64} {sm : Nat} (h0 : ∀ x, 20 * sm ≤ x → EC x = 0) : scM HI C me ev EC sm 20 = scE C me ev EC sm (rch HI ev 20 0) := by
  funext x
  have hr := (rch_sp HI ev 20 0).2.1
  rw [scM_eq, scE_eq]
  rcases Decidable.em (20 * sm ≤ x ∧ x < 20 * sm + 20) with h | h
  · have hb := blk_rch (HI := HI) (ev := ev) (ki := x - 20 * sm) (by omega)
    rw [if_pos h]
    rcases Decidable.em (blk HI ev (x - 20 * sm + 1) = true) with h2 | h2
    · have h3 := hb.mp h2
      rw [if_pos h2, if_neg (show ¬ (20 * sm ≤ x ∧ x < 20 * sm + rch HI ev 20 0) by omega), h0 x h.1]
    · have h3 : ¬ rch HI ev 20 0 ≤ x - 20 * sm := fun z => h2 (hb.mpr z)
      rw [if_neg h2, if_pos (show 20 * sm ≤ x ∧ x < 20 * sm + rch HI ev 20 0 by omega), em_eb]
  · rw [if_neg h, if_neg (show ¬ (20 * sm ≤ x ∧ x < 20 * sm + rch HI ev 20 0) by omega)]
theorem scE_0 {HI C : Nat → Nat} {me ev : Nat} {EC : Nat → Int64} {sm : Nat} (h0 : ∀ x, 20 * sm ≤ x → EC x = 0) : ∀ x, 20 * (sm + 1) ≤ x → scE C me ev EC sm (rch HI ev 20 0) x = 0 := by
  intro x hx
  have hr := (rch_sp HI ev 20 0).2.1
  rw [scE_eq, if_neg (by omega)]
  exact h0 x (by omega)
/-- gauges: without one there is nothing -/
theorem GO_up {me : Nat} {C : Nat → Nat} {UP CL : Nat → Bool} {CO : Nat → Int64} (h : ∀ k, UP k = false → CO k = 0) : ∀ k, UP k = false → GO me C UP CL CO 20 k = 0 := by
  intro k hk
  rw [GO_eq]
  have hg : ∀ w, gof UP CL w k = 0 := fun w => if_neg (by rw [hk]; decide)
  rw [hg, Int64.add_zero, ite_self]
  exact h k hk
theorem GO_pv {me dp mi : Nat} {up : Bool} {UP CL : Nat → Bool} {v : MV} (h : ∀ k, UP k = false → v.2.2.1 k = 0) : ∀ n k, UP k = false → (pv me dp up UP CL mi v n).2.2.1 k = 0
  | 0 => h
  | n + 1 => GO_up (GO_pv h n)
