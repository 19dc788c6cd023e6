/-! ===== the statement is false: the witness's own launch and state, with 90 zeros for its script (names of the witness: for a whole round alone) ===== -/
def zs9 : Array Value := (List.replicate 90 (Value.int 0)).toArray
def ab9 : State := start1.aboutOf zs9
set_option maxRecDepth 16384 in
theorem ot9 : List.all (Jvm.Cond.code x code maxLocals ret :: tables_1) (fun w => vx_ot w || w.before start1.args0 ab9) = true := by decide +kernel
theorem words9 : ∀ c ∈ (Jvm.Cond.code x code maxLocals ret :: tables_1), c.before start1.args0 ab9 = true := by
  intro c hc
  have h : (vx_ot c || c.before start1.args0 ab9) = true := List.all_eq_true.mp ot9 c hc
  rw [Bool.or_eq_true] at h
  rcases h with h | h
  · exact vx_ot_at (s := start1.about) (U := ab9) (State.WarmedH.refl start1.about) rfl h (start1.words c hc)
  · exact h
set_option maxRecDepth 16384 in
theorem app9_1 : (headSpec (Jvm.Cond.code x code maxLocals ret :: tables_1) room_1).applies x start1.e0.platform ab9 = true :=
  (Spec.applies_iff rfl).mpr ⟨rfl, rfl, rfl, by decide +kernel, by decide +kernel, by decide +kernel, launch0.hasRoom_least _ room_1 (by decide +kernel) (by decide +kernel) (by decide +kernel) (by decide +kernel) (by decide +kernel) (by decide +kernel), atoms_intro words9⟩
set_option maxRecDepth 16384 in
theorem app9_9 : (headSpec (Jvm.Cond.code x code maxLocals ret :: tables_1) room9).applies x start1.e0.platform ab9 = true :=
  (Spec.applies_iff rfl).mpr ⟨rfl, rfl, rfl, by decide +kernel, by decide +kernel, by decide +kernel, launch0.hasRoom_least _ room9 (by decide +kernel) (by decide +kernel) (by decide +kernel) (by decide +kernel) (by decide +kernel) (by decide +kernel), atoms_intro words9⟩
set_option maxRecDepth 16384 in
theorem pre9 : (Jvm.Cond.and given_1 narrow_1).before start1.args0 ab9 = true := by decide +kernel
set_option maxRecDepth 16384 in
theorem rest9 : rest_1_c.before start1.args0 ab9 = true := by decide +kernel
theorem zero9 {xs : List Int32} (h1 : xs.map Value.int = List.replicate 90 (Value.int 0)) : 90 ≤ xs.length ∧ ∀ j, j < 90 → xs.getD j 0 = 0 := by
  refine ⟨?_, fun j hj => ?_⟩
  · have h2 := congrArg List.length h1
    simp at h2
    omega
  · have h2 : (xs.map Value.int)[j]? = (List.replicate 90 (Value.int 0))[j]? := by rw [h1]
    rw [List.getElem?_map, List.getElem?_replicate, if_pos hj] at h2
    cases hq : xs[j]? with
    | none => rw [hq] at h2; cases h2
    | some v =>
      rw [hq] at h2
      have h3 : Value.int v = Value.int 0 := Option.some.inj h2
      have h4 : v = 0 := by injection h3
      rw [List.getD_eq_getElem?_getD, hq, h4]
      rfl
set_option maxRecDepth 16384 in
/-- on a script of 90 zeros the run ends with more new cells than the claim grants -/
theorem p23_false (h : ∃ (n : Nat) (o : Outcome), (∀ k, k < n → Within (stepsAlone start1.p0.tables start1.e0 k ab9) Lib.HandBits.below0) ∧ (stepsAlone start1.p0.tables start1.e0 n ab9).status = Status.running ∧ Ended (stepsAlone start1.p0.tables start1.e0 n ab9) Lib.HandBits.below0 o ∧ (stepsAlone start1.p0.tables start1.e0 n ab9).heap.size ≤ ab9.heap.size + 154) : False := by
  obtain ⟨n, o, hw, hrun, hend, hsize⟩ := h
  obtain ⟨b, xs, hP⟩ := lw_pre_spec pre9 rest9
  have hP0 := hP
  obtain ⟨hargs, ⟨scr, harrAt, hlist, -, -⟩, -, -⟩ := hP
  have hb0 : (0 : Nat) = b := by
    have h1 : (#[Value.ref 0] : Array Value)[0]? = (#[Value.ref b] : Array Value)[0]? := congrArg (fun a : Array Value => a[0]?) hargs
    have h2 : Value.ref 0 = Value.ref b := Option.some.inj h1
    injection h2
  subst hb0
  obtain ⟨hcb, -, -, -⟩ := State.arrayAt?_spec harrAt
  have hscr : ab9.heap[0]? = some { cls := 17, slots := zs9, vm := .none } := rfl
  have he : scr = { cls := 17, slots := zs9, vm := .none } := Option.some.inj (hcb.symm.trans hscr)
  rw [he] at hlist
  obtain ⟨hL9, hzero⟩ := zero9 (xs := xs) hlist.symm
  obtain ⟨s2, ⟨n2, hn2, hw2⟩, hbig0⟩ := big_comes launch0 rfl start1.p0.tables rfl start1.e0 (launch0.admits_env _ _ _) ab9 ⟨0, 0⟩ start1.args0 Lib.HandBits.below0 rfl ((Spec.applies_iff_loose rfl).mp app9_9).1
  have hbig := hbig0 ⟨start1.p0, start1.args0, 0, xs, rfl, fairChoices_fair.cas, fairChoices_fair.clock, rfl, hP0, hL9, hzero⟩
  rcases Nat.lt_or_ge n n2 with hlt | hge
  · exact hend.not_within (hw2 n hlt)
  · obtain ⟨j, rfl⟩ := Nat.exists_eq_add_of_le hge
    have hgrow := stepsAlone_heap_le start1.p0.tables start1.e0 j (stepsAlone start1.p0.tables start1.e0 n2 ab9)
    rw [← stepsAlone_add, hn2] at hgrow
    omega
set_option maxRecDepth 16384 in
theorem p23_false_1 : ¬ Claimed_1_1 := by
  intro h
  obtain ⟨n, o, hw, hrun, hend, hpost⟩ := h launch0 rfl lists_1 trivial start1.p0 start1.e0 (launch0.admits_env _ _ _) fairChoices_fair.cas fairChoices_fair.clock ab9 ⟨0, 0⟩ start1.args0 Lib.HandBits.below0 rfl (by decide +kernel) (by decide +kernel) app9_1 ⟨trivial, rest9, pre9⟩
  exact p23_false ⟨n, o, hw, hrun, hend, hpost.2.1.2.2.2.2.1⟩
set_option maxRecDepth 16384 in
theorem p23_false_2 : ¬ Claimed_1_2 := by
  intro h
  obtain ⟨n, o, hw, hrun, hend, hpost⟩ := h launch0 rfl lists_1 trivial start1.p0 start1.e0 (launch0.admits_env _ _ _) fairChoices_fair.cas fairChoices_fair.clock ab9 ⟨0, 0⟩ start1.args0 Lib.HandBits.below0 rfl (by decide +kernel) (by decide +kernel) app9_1 ⟨trivial, rest9, pre9⟩
  exact p23_false ⟨n, o, hw, hrun, hend, hpost.2.1.2.2.2.2.1⟩
/-- the owed statement is false -/
theorem p23_refuted : ¬ (Claimed_1_1 ∧ Claimed_1_2) := fun h => p23_false_1 h.1
