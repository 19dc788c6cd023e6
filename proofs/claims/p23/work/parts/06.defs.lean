/-! ===== the sky in numbers: what one minute does, as the class does it (in place) ===== -/
theorem bI_fit (b : Bool) : fits .boolean (.int (bI b)) = true := by cases b <;> rfl
def phN (la me : Nat) : Nat := if la ≤ me then (if la = me then 1 else 2) else 0
theorem phN_le (la me : Nat) : phN la me ≤ 2 := by unfold phN; repeat' split
                                                   all_goals omega
theorem phN_0 (la me : Nat) : phN la me = 0 ↔ me < la := by unfold phN; repeat' split
                                                            all_goals omega
def faN (la si me : Nat) : Nat := if me < la then 1 else si
theorem faN_le {la si me : Nat} (h1 : 1 ≤ si) (h3 : si ≤ 3) : 1 ≤ faN la si me ∧ faN la si me ≤ 3 := by unfold faN; split <;> omega
def cu (si : Nat) : Int64 := (nI si).toInt64 * (nI si).toInt64 * (nI si).toInt64
def wtr (si mn : Nat) : Int64 := cu si * (nI mn).toInt64
def bmN (ki ev : Nat) : Nat := ev * ki / 4 + ki * ki / 100
theorem bmN_le {ki ev : Nat} (h1 : ki < 20) (h2 : ev < 4) : bmN ki ev ≤ 17 := by
  unfold bmN
  have h3 : ev * ki ≤ 3 * 19 := Nat.mul_le_mul (by omega) (by omega)
  have h4 : ki * ki ≤ 19 * 19 := Nat.mul_le_mul (by omega) (by omega)
  omega
/-- one place of the air falls, in place -/
def fst9 (me : Nat) (C : Nat → Nat) (n : Nat) : Nat → Nat := if n / 3 % 10 < faN (n / 3 % 10) (n % 3 + 1) me then uN C n 0 else uN (uN C n 0) (n - 3 * faN (n / 3 % 10) (n % 3 + 1) me) (uN C n 0 (n - 3 * faN (n / 3 % 10) (n % 3 + 1) me) + C n)
def fsw9 (me : Nat) (C : Nat → Nat) (n : Nat) : Int64 := if n / 3 % 10 < faN (n / 3 % 10) (n % 3 + 1) me then wtr (n % 3 + 1) (C n) else 0
def FC (me : Nat) (C : Nat → Nat) (n : Nat) : Nat → (Nat → Nat) | 0 => C | j + 1 => fst9 me (FC me C n j) (n + j)
def FL (me : Nat) (C : Nat → Nat) (n : Nat) : Nat → Int64 | 0 => 0 | j + 1 => FL me C n j + fsw9 me (FC me C n j) (n + j)
theorem FC_a {me : Nat} {C : Nat → Nat} {ki la z : Nat} (hla : la < 10) (hz : z < 3) (h : la < faN la (z + 1) me) : FC me C (30 * ki) (3 * la + (z + 1)) = uN (FC me C (30 * ki) (3 * la + z)) (30 * ki + 3 * la + (z + 1 - 1)) 0 := by
  show fst9 me (FC me C (30 * ki) (3 * la + z)) (30 * ki + (3 * la + z)) = _
  unfold fst9
  have e1 : (30 * ki + (3 * la + z)) / 3 % 10 = la := by omega
  have e2 : (30 * ki + (3 * la + z)) % 3 = z := by omega
  have e3 : 30 * ki + (3 * la + z) = 30 * ki + 3 * la + (z + 1 - 1) := by omega
  rw [e1, e2, if_pos h, e3]
theorem FC_b {me : Nat} {C : Nat → Nat} {ki la z : Nat} (hla : la < 10) (hz : z < 3) (h : ¬ la < faN la (z + 1) me) : FC me C (30 * ki) (3 * la + (z + 1)) = uN (uN (FC me C (30 * ki) (3 * la + z)) (30 * ki + 3 * la + (z + 1 - 1)) 0) (30 * ki + 3 * (la - faN la (z + 1) me) + (z + 1 - 1)) (uN (FC me C (30 * ki) (3 * la + z)) (30 * ki + 3 * la + (z + 1 - 1)) 0 (30 * ki + 3 * (la - faN la (z + 1) me) + (z + 1 - 1)) + FC me C (30 * ki) (3 * la + z) (30 * ki + 3 * la + (z + 1 - 1))) := by
  show fst9 me (FC me C (30 * ki) (3 * la + z)) (30 * ki + (3 * la + z)) = _
  unfold fst9
  have e1 : (30 * ki + (3 * la + z)) / 3 % 10 = la := by omega
  have e2 : (30 * ki + (3 * la + z)) % 3 = z := by omega
  have e3 : 30 * ki + (3 * la + z) = 30 * ki + 3 * la + (z + 1 - 1) := by omega
  have e4 : 30 * ki + 3 * la + (z + 1 - 1) - 3 * faN la (z + 1) me = 30 * ki + 3 * (la - faN la (z + 1) me) + (z + 1 - 1) := by omega
  rw [e1, e2, if_neg h, e3, e4]
theorem FL_a {me : Nat} {C : Nat → Nat} {ki la z : Nat} (hla : la < 10) (hz : z < 3) (h : la < faN la (z + 1) me) : FL me C (30 * ki) (3 * la + (z + 1)) = FL me C (30 * ki) (3 * la + z) + wtr (z + 1) (FC me C (30 * ki) (3 * la + z) (30 * ki + 3 * la + (z + 1 - 1))) := by
  show FL me C (30 * ki) (3 * la + z) + fsw9 me (FC me C (30 * ki) (3 * la + z)) (30 * ki + (3 * la + z)) = _
  unfold fsw9
  have e1 : (30 * ki + (3 * la + z)) / 3 % 10 = la := by omega
  have e2 : (30 * ki + (3 * la + z)) % 3 = z := by omega
  have e3 : 30 * ki + (3 * la + z) = 30 * ki + 3 * la + (z + 1 - 1) := by omega
  rw [e1, e2, if_pos h, e3]
theorem FL_b {me : Nat} {C : Nat → Nat} {ki la z : Nat} (hla : la < 10) (hz : z < 3) (h : ¬ la < faN la (z + 1) me) : FL me C (30 * ki) (3 * la + (z + 1)) = FL me C (30 * ki) (3 * la + z) := by
  show FL me C (30 * ki) (3 * la + z) + fsw9 me (FC me C (30 * ki) (3 * la + z)) (30 * ki + (3 * la + z)) = _
  unfold fsw9
  have e1 : (30 * ki + (3 * la + z)) / 3 % 10 = la := by omega
  have e2 : (30 * ki + (3 * la + z)) % 3 = z := by omega
  rw [e1, e2, if_neg h, Int64.add_zero]
/-- a kilometre's drops go to the next one, in place; or leave -/
def mvi (C : Nat → Nat) (fr to : Nat) : Nat → (Nat → Nat) | 0 => C | j + 1 => uN (uN (mvi C fr to j) (30 * fr + j) 0) (30 * to + j) (uN (mvi C fr to j) (30 * fr + j) 0 (30 * to + j) + mvi C fr to j (30 * fr + j))
def mvo (C : Nat → Nat) (fr : Nat) : Nat → (Nat → Nat) | 0 => C | j + 1 => uN (mvo C fr j) (30 * fr + j) 0
def mvl (C : Nat → Nat) (fr : Nat) : Nat → Int64 | 0 => 0 | j + 1 => mvl C fr j + wtr (j % 3 + 1) (mvo C fr j (30 * fr + j))
theorem mvi_st {C : Nat → Nat} {fr to la z : Nat} : mvi C fr to (3 * la + (z + 1)) = uN (uN (mvi C fr to (3 * la + z)) (30 * fr + 3 * la + (z + 1 - 1)) 0) (30 * to + 3 * la + (z + 1 - 1)) (uN (mvi C fr to (3 * la + z)) (30 * fr + 3 * la + (z + 1 - 1)) 0 (30 * to + 3 * la + (z + 1 - 1)) + mvi C fr to (3 * la + z) (30 * fr + 3 * la + (z + 1 - 1))) := by
  have e1 : 30 * fr + 3 * la + (z + 1 - 1) = 30 * fr + (3 * la + z) := by omega
  have e2 : 30 * to + 3 * la + (z + 1 - 1) = 30 * to + (3 * la + z) := by omega
  rw [e1, e2]
  rfl
theorem mvo_st {C : Nat → Nat} {fr la z : Nat} : mvo C fr (3 * la + (z + 1)) = uN (mvo C fr (3 * la + z)) (30 * fr + 3 * la + (z + 1 - 1)) 0 := by
  have e1 : 30 * fr + 3 * la + (z + 1 - 1) = 30 * fr + (3 * la + z) := by omega
  rw [e1]
  rfl
theorem mvl_st {C : Nat → Nat} {fr la z : Nat} (hz : z < 3) : mvl C fr (3 * la + (z + 1)) = mvl C fr (3 * la + z) + wtr (z + 1) (mvo C fr (3 * la + z) (30 * fr + 3 * la + (z + 1 - 1))) := by
  have e1 : 30 * fr + 3 * la + (z + 1 - 1) = 30 * fr + (3 * la + z) := by omega
  have e2 : (3 * la + z) % 3 = z := by omega
  rw [e1]
  show mvl C fr (3 * la + z) + wtr ((3 * la + z) % 3 + 1) (mvo C fr (3 * la + z) (30 * fr + (3 * la + z))) = _
  rw [e2]
def mU (C : Nat → Nat) : Nat → (Nat → Nat) | 0 => C | i + 1 => if i = 0 then mvo (mU C i) (19 - i) 30 else mvi (mU C i) (19 - i) (19 - i + 1) 30
def mUl (C : Nat → Nat) : Nat → Int64 | 0 => 0 | i + 1 => mUl C i + if i = 0 then mvl (mU C i) (19 - i) 30 else 0
def mW (C : Nat → Nat) : Nat → (Nat → Nat) | 0 => C | i + 1 => if i = 0 then mvo (mW C i) i 30 else mvi (mW C i) i (i - 1) 30
def mWl (C : Nat → Nat) : Nat → Int64 | 0 => 0 | i + 1 => mWl C i + if i = 0 then mvl (mW C i) i 30 else 0
def pe9 (F : Nat → Nat) : Nat → Int64 | 0 => 0 | z + 1 => pe9 F z + cu (z + 1) * cu (z + 1) * (nI (F z)).toInt64
def AWs (C : Nat → Nat) : Nat → Int64 | 0 => 0 | n + 1 => AWs C n + wtr (n % 3 + 1) (C n)
theorem AW_st {C : Nat → Nat} {ki la z : Nat} (hz : z < 3) : AWs C (30 * ki + 3 * la + (z + 1)) = AWs C (30 * ki + 3 * la + z) + wtr (z + 1) (C (30 * ki + 3 * la + (z + 1 - 1))) := by
  show AWs C (30 * ki + 3 * la + z) + wtr ((30 * ki + 3 * la + z) % 3 + 1) (C (30 * ki + 3 * la + z)) = _
  have e2 : (30 * ki + 3 * la + z) % 3 = z := by omega
  rw [e2]
  rfl
