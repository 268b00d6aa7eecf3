/-! the class's Program: what its reads answer -/
section PG
variable {Lx : Nat} {F A : Nat → Nat → Int32} {J : Nat → Nat → Int64} {P n ou : Nat} {c : Nat → Nat → Nat} {ws : Nat → Nat}
theorem c_hasInstruction (hP : isP P) (h : XP F A P n c ws ou) (hn : n ≤ 24) (i : Int32) : dcall mX3_hasInstruction [.ref P, .int i] (mk Lx F A J) = some (some (.int (bI (¬ i < 0 ∧ i < nI n))), mk Lx F A J) := by
  simp only [CX3_hasInstruction, SX3_hasInstruction, Gp hP, h.1, Option.bind_some, Option.bind_none, if_true, if_false, zr0, zr1, one11, one01, one0, one1, Option.toList_some, Option.toList_none, List.cons_append, List.nil_append, Nat.reduceEqDiff, Nat.reduceAdd, not_false_eq_true, not_true_eq_false, and_true, true_and, and_false, false_and, or_true, true_or, or_false, false_or, and_self, or_self, Bool.false_eq_true]
  by_cases h1 : i < 0
  · simp only [h1, Option.bind_some, Option.bind_none, if_true, if_false, zr0, zr1, one11, one01, one0, one1, Option.toList_some, Option.toList_none, List.cons_append, List.nil_append, Nat.reduceEqDiff, Nat.reduceAdd, not_false_eq_true, not_true_eq_false, and_true, true_and, and_false, false_and, or_true, true_or, or_false, false_or, and_self, or_self, Bool.false_eq_true, not_true_eq_false, false_and, bI]
  · by_cases h2 : i < nI n
    · simp only [h1, h2, Option.bind_some, Option.bind_none, if_true, if_false, zr0, zr1, one11, one01, one0, one1, Option.toList_some, Option.toList_none, List.cons_append, List.nil_append, Nat.reduceEqDiff, Nat.reduceAdd, not_false_eq_true, not_true_eq_false, and_true, true_and, and_false, false_and, or_true, true_or, or_false, false_or, and_self, or_self, Bool.false_eq_true, not_false_eq_true, true_and, bI]
    · simp only [h1, h2, Option.bind_some, Option.bind_none, if_true, if_false, zr0, zr1, one11, one01, one0, one1, Option.toList_some, Option.toList_none, List.cons_append, List.nil_append, Nat.reduceEqDiff, Nat.reduceAdd, not_false_eq_true, not_true_eq_false, and_true, true_and, and_false, false_and, or_true, true_or, or_false, false_or, and_self, or_self, Bool.false_eq_true, not_false_eq_true, true_and, bI]
theorem c_hasIf (hP : isP P) (h : XP F A P n c ws ou) (j : Int32) : dcall mX3_hasIf [.ref P, .int j] (mk Lx F A J) = some (some (.int (bI (¬ j < 0 ∧ j < nI (nif c n)))), mk Lx F A J) := by
  simp only [CX3_hasIf, SX3_hasIf, Gp hP, h.2.1, Option.bind_some, Option.bind_none, if_true, if_false, zr0, zr1, one11, one01, one0, one1, Option.toList_some, Option.toList_none, List.cons_append, List.nil_append, Nat.reduceEqDiff, Nat.reduceAdd, not_false_eq_true, not_true_eq_false, and_true, true_and, and_false, false_and, or_true, true_or, or_false, false_or, and_self, or_self, Bool.false_eq_true]
  by_cases h1 : j < 0
  · simp only [h1, Option.bind_some, Option.bind_none, if_true, if_false, zr0, zr1, one11, one01, one0, one1, Option.toList_some, Option.toList_none, List.cons_append, List.nil_append, Nat.reduceEqDiff, Nat.reduceAdd, not_false_eq_true, not_true_eq_false, and_true, true_and, and_false, false_and, or_true, true_or, or_false, false_or, and_self, or_self, Bool.false_eq_true, not_true_eq_false, false_and, bI]
  · by_cases h2 : j < nI (nif c n)
    · simp only [h1, h2, Option.bind_some, Option.bind_none, if_true, if_false, zr0, zr1, one11, one01, one0, one1, Option.toList_some, Option.toList_none, List.cons_append, List.nil_append, Nat.reduceEqDiff, Nat.reduceAdd, not_false_eq_true, not_true_eq_false, and_true, true_and, and_false, false_and, or_true, true_or, or_false, false_or, and_self, or_self, Bool.false_eq_true, not_false_eq_true, true_and, bI]
    · simp only [h1, h2, Option.bind_some, Option.bind_none, if_true, if_false, zr0, zr1, one11, one01, one0, one1, Option.toList_some, Option.toList_none, List.cons_append, List.nil_append, Nat.reduceEqDiff, Nat.reduceAdd, not_false_eq_true, not_true_eq_false, and_true, true_and, and_false, false_and, or_true, true_or, or_false, false_or, and_self, or_self, Bool.false_eq_true, not_false_eq_true, true_and, bI]
theorem c_guardCount (hP : isP P) (h : XP F A P n c ws ou) : dcall mX3_guardCount [.ref P] (mk Lx F A J) = some (some (.int (nI (2 * nif c n + 1))), mk Lx F A J) := by
  simp only [CX3_guardCount, SX3_guardCount, Gp hP, h.2.1, Option.bind_some, Option.bind_none, if_true, if_false, zr0, zr1, one11, one01, one0, one1, Option.toList_some, Option.toList_none, List.cons_append, List.nil_append, Nat.reduceEqDiff, Nat.reduceAdd, not_false_eq_true, not_true_eq_false, and_true, true_and, and_false, false_and, or_true, true_or, or_false, false_or, and_self, or_self, Bool.false_eq_true, nI_m, nI_add]
theorem c_hasGuard (hP : isP P) (h : XP F A P n c ws ou) (g : Int32) : dcall mX3_hasGuard [.ref P, .int g] (mk Lx F A J) = some (some (.int (bI (¬ g < 0 ∧ g < nI (2 * nif c n + 1)))), mk Lx F A J) := by
  simp only [CX3_hasGuard, SX3_hasGuard, Op hP, c_guardCount hP h, Option.bind_some, Option.bind_none, if_true, if_false, zr0, zr1, one11, one01, one0, one1, Option.toList_some, Option.toList_none, List.cons_append, List.nil_append, Nat.reduceEqDiff, Nat.reduceAdd, not_false_eq_true, not_true_eq_false, and_true, true_and, and_false, false_and, or_true, true_or, or_false, false_or, and_self, or_self, Bool.false_eq_true]
  by_cases h1 : g < 0
  · simp only [h1, Option.bind_some, Option.bind_none, if_true, if_false, zr0, zr1, one11, one01, one0, one1, Option.toList_some, Option.toList_none, List.cons_append, List.nil_append, Nat.reduceEqDiff, Nat.reduceAdd, not_false_eq_true, not_true_eq_false, and_true, true_and, and_false, false_and, or_true, true_or, or_false, false_or, and_self, or_self, Bool.false_eq_true, not_true_eq_false, false_and, bI]
  · by_cases h2 : g < nI (2 * nif c n + 1)
    · simp only [h1, h2, Option.bind_some, Option.bind_none, if_true, if_false, zr0, zr1, one11, one01, one0, one1, Option.toList_some, Option.toList_none, List.cons_append, List.nil_append, Nat.reduceEqDiff, Nat.reduceAdd, not_false_eq_true, not_true_eq_false, and_true, true_and, and_false, false_and, or_true, true_or, or_false, false_or, and_self, or_self, Bool.false_eq_true, not_false_eq_true, true_and, bI]
    · simp only [h1, h2, Option.bind_some, Option.bind_none, if_true, if_false, zr0, zr1, one11, one01, one0, one1, Option.toList_some, Option.toList_none, List.cons_append, List.nil_append, Nat.reduceEqDiff, Nat.reduceAdd, not_false_eq_true, not_true_eq_false, and_true, true_and, and_false, false_and, or_true, true_or, or_false, false_or, and_self, or_self, Bool.false_eq_true, not_false_eq_true, true_and, bI]
theorem c_isCompute (hP : isP P) (h : XP F A P n c ws ou) (hv : PV n c ws ou) {i : Nat} (hi : i < n) : dcall mX3_isCompute [.ref P, .int (nI i)] (mk Lx F A J) = some (some (.int (bI (1 ≤ c i 0 ∧ c i 0 ≤ 4))), mk Lx F A J) := by
  have hb := hv.b hi
  have hn := hv.1
  simp (disch := omega) only [CX3_isCompute, SX3_isCompute, Gp hP, lep hP, ap1 hP, (h.2.2.2.1 i hi).1, nI_ltI, Option.bind_some, Option.bind_none, if_true, if_false, zr0, zr1, one11, one01, one0, one1, Option.toList_some, Option.toList_none, List.cons_append, List.nil_append, Nat.reduceEqDiff, Nat.reduceAdd, not_false_eq_true, not_true_eq_false, and_true, true_and, and_false, false_and, or_true, true_or, or_false, false_or, and_self, or_self, Bool.false_eq_true]
  by_cases h1 : c i 0 < 1
  · simp only [h1, Option.bind_some, Option.bind_none, if_true, if_false, zr0, zr1, one11, one01, one0, one1, Option.toList_some, Option.toList_none, List.cons_append, List.nil_append, Nat.reduceEqDiff, Nat.reduceAdd, not_false_eq_true, not_true_eq_false, and_true, true_and, and_false, false_and, or_true, true_or, or_false, false_or, and_self, or_self, Bool.false_eq_true, bI]
    rw [if_neg (by omega)]
  · by_cases h2 : 4 < c i 0
    · simp only [h1, h2, Option.bind_some, Option.bind_none, if_true, if_false, zr0, zr1, one11, one01, one0, one1, Option.toList_some, Option.toList_none, List.cons_append, List.nil_append, Nat.reduceEqDiff, Nat.reduceAdd, not_false_eq_true, not_true_eq_false, and_true, true_and, and_false, false_and, or_true, true_or, or_false, false_or, and_self, or_self, Bool.false_eq_true, bI]
      rw [if_neg (by omega)]
    · simp only [h1, h2, Option.bind_some, Option.bind_none, if_true, if_false, zr0, zr1, one11, one01, one0, one1, Option.toList_some, Option.toList_none, List.cons_append, List.nil_append, Nat.reduceEqDiff, Nat.reduceAdd, not_false_eq_true, not_true_eq_false, and_true, true_and, and_false, false_and, or_true, true_or, or_false, false_or, and_self, or_self, Bool.false_eq_true, bI]
      rw [if_pos (by omega)]
theorem c_makerOf (hP : isP P) (h : XP F A P n c ws ou) (hv : PV n c ws ou) {g : Nat} (hg : g ≤ 2 * nif c n) : dcall mX3_makerOf [.ref P, .int (nI g)] (mk Lx F A J) = some (some (.int (if g = 0 then (-4) else nI (ipl c n ((g - 1) / 2)))), mk Lx F A J) := by
  have hn := hv.2.1
  by_cases h0 : g = 0
  · subst h0
    simp only [CX3_makerOf, SX3_makerOf, n0, Option.bind_some, Option.bind_none, if_true, if_false, zr0, zr1, one11, one01, one0, one1, Option.toList_some, Option.toList_none, List.cons_append, List.nil_append, Nat.reduceEqDiff, Nat.reduceAdd, not_false_eq_true, not_true_eq_false, and_true, true_and, and_false, false_and, or_true, true_or, or_false, false_or, and_self, or_self, Bool.false_eq_true]
  · have hj : (g - 1) / 2 < nif c n := by omega
    have h1 : (g - 1) / 2 < 6 := by omega
    simp (disch := omega) only [CX3_makerOf, SX3_makerOf, Gp hP, lep hP, nI_e0, h0, Option.bind_some, Option.bind_none, if_true, if_false, zr0, zr1, one11, one01, one0, one1, Option.toList_some, Option.toList_none, List.cons_append, List.nil_append, Nat.reduceEqDiff, Nat.reduceAdd, not_false_eq_true, not_true_eq_false, and_true, true_and, and_false, false_and, or_true, true_or, or_false, false_or, and_self, or_self, Bool.false_eq_true, nI_s, nI_d, ap6 hP h1, h.2.2.2.2.1 _ hj]
theorem c_parentOf (hP : isP P) (h : XP F A P n c ws ou) (hv : PV n c ws ou) {g : Nat} (hg : g ≤ 2 * nif c n) : dcall mX3_parentOf [.ref P, .int (nI g)] (mk Lx F A J) = some (some (.int (if g = 0 then (-4) else nI (par c n g))), mk Lx F A J) := by
  have hn := hv.2.1
  have hn2 := hv.1
  by_cases h0 : g = 0
  · subst h0
    simp only [CX3_parentOf, SX3_parentOf, n0, Option.bind_some, Option.bind_none, if_true, if_false, zr0, zr1, one11, one01, one0, one1, Option.toList_some, Option.toList_none, List.cons_append, List.nil_append, Nat.reduceEqDiff, Nat.reduceAdd, not_false_eq_true, not_true_eq_false, and_true, true_and, and_false, false_and, or_true, true_or, or_false, false_or, and_self, or_self, Bool.false_eq_true]
  · have hp := par_lt hv (by omega) hg
    have hl : ipl c n ((g - 1) / 2) < 24 := by omega
    simp (disch := omega) only [CX3_parentOf, SX3_parentOf, Gp hP, Op hP, lep hP, nI_e0, h0, c_makerOf hP h hv hg, Option.bind_some, Option.bind_none, if_true, if_false, zr0, zr1, one11, one01, one0, one1, Option.toList_some, Option.toList_none, List.cons_append, List.nil_append, Nat.reduceEqDiff, Nat.reduceAdd, not_false_eq_true, not_true_eq_false, and_true, true_and, and_false, false_and, or_true, true_or, or_false, false_or, and_self, or_self, Bool.false_eq_true, ap5 hP hl, (h.2.2.2.1 _ hp.2.2.2).2.2.2.2, par]
end PG
