section OPS7
variable {Lx : Nat} {xs : Nat → Int32} {σ : dS}
theorem op_guard (h : Iv Lx xs σ) (a w : Int32) : okI Lx xs mX6_guard mX7_guard [.int a, .int w] σ := by
  obtain ⟨F, A, J, rfl, hx, hI⟩ := h
  obtain ⟨hT, hP, ⟨hI0, hI1⟩, hR, ⟨hS0, hS1, hS2, hS3⟩, hf, hto⟩ := id hI
  obtain ⟨n, c, ws, ou, hv, hX, hM⟩ := id hP
  have hn6 := hv.2.1
  rcases iin a (2 * nif c n + 1) (by omega) with ⟨g, hg, rfl⟩ | g
  · have q1 : ¬ nI g < 0 ∧ nI g < nI (2 * nif c n + 1) := ⟨nI_pos (by omega), nI_lt hg (by omega)⟩
    have hg2 : g ≤ 2 * nif c n := by omega
    have hg12 : g ≤ 12 := by omega
    by_cases w0 : w = nI 0
    · refine ⟨if g = 0 then (-4) else nI (par c n g), mk Lx F A J, mk Lx F A J, ?_, ?_, F, A, J, rfl, hx, hI⟩
      · simp (disch := omega) only [CX6_guard, SX6_guard, G0, Op isP_12, c_hasGuard isP_12 hX, bI_0, q1, w0, c_parentOf isP_12 hX hv hg2, Option.bind_some, Option.bind_none, if_true, if_false, zr0, zr1, one11, one01, one0, one1, Option.toList_some, Option.toList_none, List.cons_append, List.nil_append, Nat.reduceEqDiff, Nat.reduceAdd, not_false_eq_true, not_true_eq_false, and_true, true_and, and_false, false_and, or_true, true_or, or_false, false_or, and_self, or_self, Bool.false_eq_true]
      · simp (disch := omega) only [CX7_guard, SX7_guard, O56, c_isGuard hM hv, bI_0, q1, w0, c_parentOfM hM hv hg2, Option.bind_some, Option.bind_none, if_true, if_false, zr0, zr1, one11, one01, one0, one1, Option.toList_some, Option.toList_none, List.cons_append, List.nil_append, Nat.reduceEqDiff, Nat.reduceAdd, not_false_eq_true, not_true_eq_false, and_true, true_and, and_false, false_and, or_true, true_or, or_false, false_or, and_self, or_self, Bool.false_eq_true]
    · by_cases w1 : w = nI 1
      · refine ⟨if g = 0 then (-4) else nI (ipl c n ((g - 1) / 2)), mk Lx F A J, mk Lx F A J, ?_, ?_, F, A, J, rfl, hx, hI⟩
        · subst w1
          simp (disch := omega) only [CX6_guard, SX6_guard, G0, Op isP_12, c_hasGuard isP_12 hX, bI_0, q1, w0, c_makerOf isP_12 hX hv hg2, Option.bind_some, Option.bind_none, if_true, if_false, zr0, zr1, one11, one01, one0, one1, Option.toList_some, Option.toList_none, List.cons_append, List.nil_append, Nat.reduceEqDiff, Nat.reduceAdd, not_false_eq_true, not_true_eq_false, and_true, true_and, and_false, false_and, or_true, true_or, or_false, false_or, and_self, or_self, Bool.false_eq_true]
        · subst w1
          by_cases g0 : g = 0
          · simp (disch := omega) only [CX7_guard, SX7_guard, O56, c_isGuard hM hv, bI_0, q1, w0, nI_e0, g0, Option.bind_some, Option.bind_none, if_true, if_false, zr0, zr1, one11, one01, one0, one1, Option.toList_some, Option.toList_none, List.cons_append, List.nil_append, Nat.reduceEqDiff, Nat.reduceAdd, not_false_eq_true, not_true_eq_false, and_true, true_and, and_false, false_and, or_true, true_or, or_false, false_or, and_self, or_self, Bool.false_eq_true]
            subst g0
            simp only [q1, Option.bind_some, Option.bind_none, if_true, if_false, zr0, zr1, one11, one01, one0, one1, Option.toList_some, Option.toList_none, List.cons_append, List.nil_append, Nat.reduceEqDiff, Nat.reduceAdd, not_false_eq_true, not_true_eq_false, and_true, true_and, and_false, false_and, or_true, true_or, or_false, false_or, and_self, or_self, Bool.false_eq_true]
          · have hj : (g - 1) / 2 < nif c n := by omega
            simp (disch := omega) only [CX7_guard, SX7_guard, O56, c_isGuard hM hv, bI_0, q1, w0, nI_e0, g0, e2, nI_s, nI_d, c_codeOf hM hv hj, Option.bind_some, Option.bind_none, if_true, if_false, zr0, zr1, one11, one01, one0, one1, Option.toList_some, Option.toList_none, List.cons_append, List.nil_append, Nat.reduceEqDiff, Nat.reduceAdd, not_false_eq_true, not_true_eq_false, and_true, true_and, and_false, false_and, or_true, true_or, or_false, false_or, and_self, or_self, Bool.false_eq_true]
      · by_cases w2 : w = nI 2
        · refine ⟨nI (dep c n 6 g), mk Lx F A J, mk Lx F A J, ?_, ?_, F, A, J, rfl, hx, hI⟩
          · subst w2
            simp (disch := omega) only [CX6_guard, SX6_guard, G0, Op isP_12, c_hasGuard isP_12 hX, bI_0, q1, w0, w1, c_depthOf isP_12 hX hv hg2, Option.bind_some, Option.bind_none, if_true, if_false, zr0, zr1, one11, one01, one0, one1, Option.toList_some, Option.toList_none, List.cons_append, List.nil_append, Nat.reduceEqDiff, Nat.reduceAdd, not_false_eq_true, not_true_eq_false, and_true, true_and, and_false, false_and, or_true, true_or, or_false, false_or, and_self, or_self, Bool.false_eq_true]
          · subst w2
            simp (disch := omega) only [CX7_guard, SX7_guard, O56, c_isGuard hM hv, bI_0, q1, w0, w1, c_depthOfM hM hv hg2, Option.bind_some, Option.bind_none, if_true, if_false, zr0, zr1, one11, one01, one0, one1, Option.toList_some, Option.toList_none, List.cons_append, List.nil_append, Nat.reduceEqDiff, Nat.reduceAdd, not_false_eq_true, not_true_eq_false, and_true, true_and, and_false, false_and, or_true, true_or, or_false, false_or, and_self, or_self, Bool.false_eq_true]
        · by_cases w3 : w = nI 3
          · refine ⟨nI (sumF (fun i => if c i 4 = g then 1 else 0) 0 n), mk Lx F A J, mk Lx F A J, ?_, ?_, F, A, J, rfl, hx, hI⟩
            · subst w3
              simp (disch := omega) only [CX6_guard, SX6_guard, G0, Op isP_12, c_hasGuard isP_12 hX, bI_0, q1, w0, w1, w2, c_howManyUnder isP_12 hX hv hg12, Option.bind_some, Option.bind_none, if_true, if_false, zr0, zr1, one11, one01, one0, one1, Option.toList_some, Option.toList_none, List.cons_append, List.nil_append, Nat.reduceEqDiff, Nat.reduceAdd, not_false_eq_true, not_true_eq_false, and_true, true_and, and_false, false_and, or_true, true_or, or_false, false_or, and_self, or_self, Bool.false_eq_true]
            · subst w3
              simp (disch := omega) only [CX7_guard, SX7_guard, O56, c_isGuard hM hv, bI_0, q1, w0, w1, w2, c_standUnder hM hv hg12, Option.bind_some, Option.bind_none, if_true, if_false, zr0, zr1, one11, one01, one0, one1, Option.toList_some, Option.toList_none, List.cons_append, List.nil_append, Nat.reduceEqDiff, Nat.reduceAdd, not_false_eq_true, not_true_eq_false, and_true, true_and, and_false, false_and, or_true, true_or, or_false, false_or, and_self, or_self, Bool.false_eq_true]
          · refine ⟨(-1), mk Lx F A J, mk Lx F A J, ?_, ?_, F, A, J, rfl, hx, hI⟩
            · simp (disch := omega) only [CX6_guard, SX6_guard, G0, Op isP_12, c_hasGuard isP_12 hX, bI_0, q1, w0, w1, w2, w3, Option.bind_some, Option.bind_none, if_true, if_false, zr0, zr1, one11, one01, one0, one1, Option.toList_some, Option.toList_none, List.cons_append, List.nil_append, Nat.reduceEqDiff, Nat.reduceAdd, not_false_eq_true, not_true_eq_false, and_true, true_and, and_false, false_and, or_true, true_or, or_false, false_or, and_self, or_self, Bool.false_eq_true]
            · simp (disch := omega) only [CX7_guard, SX7_guard, O56, c_isGuard hM hv, bI_0, q1, w0, w1, w2, w3, Option.bind_some, Option.bind_none, if_true, if_false, zr0, zr1, one11, one01, one0, one1, Option.toList_some, Option.toList_none, List.cons_append, List.nil_append, Nat.reduceEqDiff, Nat.reduceAdd, not_false_eq_true, not_true_eq_false, and_true, true_and, and_false, false_and, or_true, true_or, or_false, false_or, and_self, or_self, Bool.false_eq_true]
  · refine ⟨(-1), mk Lx F A J, mk Lx F A J, ?_, ?_, F, A, J, rfl, hx, hI⟩
    · simp (disch := omega) only [CX6_guard, SX6_guard, G0, Op isP_12, c_hasGuard isP_12 hX, bI_0, g, Option.bind_some, Option.bind_none, if_true, if_false, zr0, zr1, one11, one01, one0, one1, Option.toList_some, Option.toList_none, List.cons_append, List.nil_append, Nat.reduceEqDiff, Nat.reduceAdd, not_false_eq_true, not_true_eq_false, and_true, true_and, and_false, false_and, or_true, true_or, or_false, false_or, and_self, or_self, Bool.false_eq_true]
    · simp (disch := omega) only [CX7_guard, SX7_guard, O56, c_isGuard hM hv, bI_0, g, Option.bind_some, Option.bind_none, if_true, if_false, zr0, zr1, one11, one01, one0, one1, Option.toList_some, Option.toList_none, List.cons_append, List.nil_append, Nat.reduceEqDiff, Nat.reduceAdd, not_false_eq_true, not_true_eq_false, and_true, true_and, and_false, false_and, or_true, true_or, or_false, false_or, and_self, or_self, Bool.false_eq_true]
theorem op_within (h : Iv Lx xs σ) (a b : Int32) : okI Lx xs mX6_within mX7_within [.int a, .int b] σ := by
  obtain ⟨F, A, J, rfl, hx, hI⟩ := h
  obtain ⟨hT, hP, ⟨hI0, hI1⟩, hR, ⟨hS0, hS1, hS2, hS3⟩, hf, hto⟩ := id hI
  obtain ⟨n, c, ws, ou, hv, hX, hM⟩ := id hP
  have hn6 := hv.2.1
  rcases iin a (2 * nif c n + 1) (by omega) with ⟨g, hg, rfl⟩ | g
  · have q1 : ¬ nI g < 0 ∧ nI g < nI (2 * nif c n + 1) := ⟨nI_pos (by omega), nI_lt hg (by omega)⟩
    have hg2 : g ≤ 2 * nif c n := by omega
    rcases iin b (2 * nif c n + 1) (by omega) with ⟨g', hg', rfl⟩ | g'
    · have q2 : ¬ nI g' < 0 ∧ nI g' < nI (2 * nif c n + 1) := ⟨nI_pos (by omega), nI_lt hg' (by omega)⟩
      have hg12 : g' ≤ 12 := by omega
      refine ⟨bI (wit c n 6 g g' = true), mk Lx F A J, mk Lx F A J, ?_, ?_, F, A, J, rfl, hx, hI⟩
      · simp (disch := omega) only [CX6_within, SX6_within, G0, Op isP_12, c_hasGuard isP_12 hX, bI_0, q1, q2, c_isWithin isP_12 hX hv hg2 hg12, c_oneIf, Option.bind_some, Option.bind_none, if_true, if_false, zr0, zr1, one11, one01, one0, one1, Option.toList_some, Option.toList_none, List.cons_append, List.nil_append, Nat.reduceEqDiff, Nat.reduceAdd, not_false_eq_true, not_true_eq_false, and_true, true_and, and_false, false_and, or_true, true_or, or_false, false_or, and_self, or_self, Bool.false_eq_true]
        by_cases e : wit c n 6 g g' = true
        · simp only [e, Option.bind_some, Option.bind_none, if_true, if_false, zr0, zr1, one11, one01, one0, one1, Option.toList_some, Option.toList_none, List.cons_append, List.nil_append, Nat.reduceEqDiff, Nat.reduceAdd, not_false_eq_true, not_true_eq_false, and_true, true_and, and_false, false_and, or_true, true_or, or_false, false_or, and_self, or_self, Bool.false_eq_true, bI]
        · simp only [e, Option.bind_some, Option.bind_none, if_true, if_false, zr0, zr1, one11, one01, one0, one1, Option.toList_some, Option.toList_none, List.cons_append, List.nil_append, Nat.reduceEqDiff, Nat.reduceAdd, not_false_eq_true, not_true_eq_false, and_true, true_and, and_false, false_and, or_true, true_or, or_false, false_or, and_self, or_self, Bool.false_eq_true, bI]
      · simp (disch := omega) only [CX7_within, SX7_within, O56, c_isGuard hM hv, bI_0, q1, q2, c_isWithinM hM hv hg2 hg12, c_flag, Option.bind_some, Option.bind_none, if_true, if_false, zr0, zr1, one11, one01, one0, one1, Option.toList_some, Option.toList_none, List.cons_append, List.nil_append, Nat.reduceEqDiff, Nat.reduceAdd, not_false_eq_true, not_true_eq_false, and_true, true_and, and_false, false_and, or_true, true_or, or_false, false_or, and_self, or_self, Bool.false_eq_true]
        by_cases e : wit c n 6 g g' = true
        · simp only [e, Option.bind_some, Option.bind_none, if_true, if_false, zr0, zr1, one11, one01, one0, one1, Option.toList_some, Option.toList_none, List.cons_append, List.nil_append, Nat.reduceEqDiff, Nat.reduceAdd, not_false_eq_true, not_true_eq_false, and_true, true_and, and_false, false_and, or_true, true_or, or_false, false_or, and_self, or_self, Bool.false_eq_true, bI]
        · simp only [e, Option.bind_some, Option.bind_none, if_true, if_false, zr0, zr1, one11, one01, one0, one1, Option.toList_some, Option.toList_none, List.cons_append, List.nil_append, Nat.reduceEqDiff, Nat.reduceAdd, not_false_eq_true, not_true_eq_false, and_true, true_and, and_false, false_and, or_true, true_or, or_false, false_or, and_self, or_self, Bool.false_eq_true, bI]
    · refine ⟨(-1), mk Lx F A J, mk Lx F A J, ?_, ?_, F, A, J, rfl, hx, hI⟩
      · simp (disch := omega) only [CX6_within, SX6_within, G0, Op isP_12, c_hasGuard isP_12 hX, bI_0, q1, g', Option.bind_some, Option.bind_none, if_true, if_false, zr0, zr1, one11, one01, one0, one1, Option.toList_some, Option.toList_none, List.cons_append, List.nil_append, Nat.reduceEqDiff, Nat.reduceAdd, not_false_eq_true, not_true_eq_false, and_true, true_and, and_false, false_and, or_true, true_or, or_false, false_or, and_self, or_self, Bool.false_eq_true]
      · simp (disch := omega) only [CX7_within, SX7_within, O56, c_isGuard hM hv, bI_0, q1, g', Option.bind_some, Option.bind_none, if_true, if_false, zr0, zr1, one11, one01, one0, one1, Option.toList_some, Option.toList_none, List.cons_append, List.nil_append, Nat.reduceEqDiff, Nat.reduceAdd, not_false_eq_true, not_true_eq_false, and_true, true_and, and_false, false_and, or_true, true_or, or_false, false_or, and_self, or_self, Bool.false_eq_true]
  · refine ⟨(-1), mk Lx F A J, mk Lx F A J, ?_, ?_, F, A, J, rfl, hx, hI⟩
    · simp (disch := omega) only [CX6_within, SX6_within, G0, Op isP_12, c_hasGuard isP_12 hX, bI_0, g, Option.bind_some, Option.bind_none, if_true, if_false, zr0, zr1, one11, one01, one0, one1, Option.toList_some, Option.toList_none, List.cons_append, List.nil_append, Nat.reduceEqDiff, Nat.reduceAdd, not_false_eq_true, not_true_eq_false, and_true, true_and, and_false, false_and, or_true, true_or, or_false, false_or, and_self, or_self, Bool.false_eq_true]
    · simp (disch := omega) only [CX7_within, SX7_within, O56, c_isGuard hM hv, bI_0, g, Option.bind_some, Option.bind_none, if_true, if_false, zr0, zr1, one11, one01, one0, one1, Option.toList_some, Option.toList_none, List.cons_append, List.nil_append, Nat.reduceEqDiff, Nat.reduceAdd, not_false_eq_true, not_true_eq_false, and_true, true_and, and_false, false_and, or_true, true_or, or_false, false_or, and_self, or_self, Bool.false_eq_true]
theorem op_count (h : Iv Lx xs σ) (w : Int32) : okI Lx xs mX6_count mX7_count [.int w] σ := by
  obtain ⟨F, A, J, rfl, hx, hI⟩ := h
  obtain ⟨hT, hP, ⟨hI0, hI1⟩, hR, ⟨hS0, hS1, hS2, hS3⟩, hf, hto⟩ := id hI
  obtain ⟨n, c, ws, ou, hv, hX, hM⟩ := id hP
  obtain ⟨t, ht, h1, h2, h3⟩ := id hT
  by_cases w0 : w = nI 0
  · have hb0 : A 21 0 = A 59 0 := by
      rcases hI0 with z | z
      · rw [z.1, z.2]
      · rw [z.1, z.2.1]
    have hb1 : A 21 1 = A 59 1 := by
      rcases hI1 with z | z
      · rw [z.1, z.2]
      · rw [z.1, z.2.1]
    refine ⟨(if A 21 0 = 0 then nI 0 else nI 1) + (if A 21 1 = 0 then nI 0 else nI 1), mk Lx F A J, mk Lx F A J, ?_, ?_, F, A, J, rfl, hx, hI⟩
    · simp (disch := omega) only [CX6_count, SX6_count_0, SX6_count_1, G0, w0, a21, c_oneIf, Option.bind_some, Option.bind_none, if_true, if_false, zr0, zr1, one11, one01, one0, one1, Option.toList_some, Option.toList_none, List.cons_append, List.nil_append, Nat.reduceEqDiff, Nat.reduceAdd, not_false_eq_true, not_true_eq_false, and_true, true_and, and_false, false_and, or_true, true_or, or_false, false_or, and_self, or_self, Bool.false_eq_true]
    · simp (disch := omega) only [CX7_count, SX7_count_0, SX7_count_1, G56, O56, w0, a59, c_flag, hb0, hb1, Option.bind_some, Option.bind_none, if_true, if_false, zr0, zr1, one11, one01, one0, one1, Option.toList_some, Option.toList_none, List.cons_append, List.nil_append, Nat.reduceEqDiff, Nat.reduceAdd, not_false_eq_true, not_true_eq_false, and_true, true_and, and_false, false_and, or_true, true_or, or_false, false_or, and_self, or_self, Bool.false_eq_true]
  · by_cases w1 : w = nI 1
    · subst w1
      refine ⟨nI (sumF (fun i => if c i 0 = 4 then 1 else 0) 0 n), mk Lx F A J, mk Lx F A J, ?_, ?_, F, A, J, rfl, hx, hI⟩
      · simp (disch := omega) only [CX6_count, SX6_count_0, SX6_count_1, G0, w0, Op isP_12, c_howManyOf isP_12 hX hv, Option.bind_some, Option.bind_none, if_true, if_false, zr0, zr1, one11, one01, one0, one1, Option.toList_some, Option.toList_none, List.cons_append, List.nil_append, Nat.reduceEqDiff, Nat.reduceAdd, not_false_eq_true, not_true_eq_false, and_true, true_and, and_false, false_and, or_true, true_or, or_false, false_or, and_self, or_self, Bool.false_eq_true]
      · simp (disch := omega) only [CX7_count, SX7_count_0, SX7_count_1, O56, w0, c_sumOf hM hv, Option.bind_some, Option.bind_none, if_true, if_false, zr0, zr1, one11, one01, one0, one1, Option.toList_some, Option.toList_none, List.cons_append, List.nil_append, Nat.reduceEqDiff, Nat.reduceAdd, not_false_eq_true, not_true_eq_false, and_true, true_and, and_false, false_and, or_true, true_or, or_false, false_or, and_self, or_self, Bool.false_eq_true]
    · by_cases w2 : w = nI 2
      · subst w2
        refine ⟨nI t, mk Lx F A J, mk Lx F A J, ?_, ?_, F, A, J, rfl, hx, hI⟩
        · simp (disch := omega) only [CX6_count, SX6_count_0, SX6_count_1, G0, G1, w0, w1, h1, Option.bind_some, Option.bind_none, if_true, if_false, zr0, zr1, one11, one01, one0, one1, Option.toList_some, Option.toList_none, List.cons_append, List.nil_append, Nat.reduceEqDiff, Nat.reduceAdd, not_false_eq_true, not_true_eq_false, and_true, true_and, and_false, false_and, or_true, true_or, or_false, false_or, and_self, or_self, Bool.false_eq_true]
        · simp (disch := omega) only [CX7_count, SX7_count_0, SX7_count_1, G56, w0, w1, h2, Option.bind_some, Option.bind_none, if_true, if_false, zr0, zr1, one11, one01, one0, one1, Option.toList_some, Option.toList_none, List.cons_append, List.nil_append, Nat.reduceEqDiff, Nat.reduceAdd, not_false_eq_true, not_true_eq_false, and_true, true_and, and_false, false_and, or_true, true_or, or_false, false_or, and_self, or_self, Bool.false_eq_true]
      · by_cases w3 : w = nI 3
        · subst w3
          rcases hS0 with ⟨s1, s2⟩ | ⟨ln, sz, s1, s2, s3, s4, s5, s6, s7⟩
          · refine ⟨(-4), mk Lx F A J, mk Lx F A J, ?_, ?_, F, A, J, rfl, hx, hI⟩
            · have s1' : F 48 2 = (-4) := s1
              simp (disch := omega) only [CX6_count, SX6_count_0, SX6_count_1, G0, w0, w1, w2, r31_0, Gs isS_48, s1', Option.bind_some, Option.bind_none, if_true, if_false, zr0, zr1, one11, one01, one0, one1, Option.toList_some, Option.toList_none, List.cons_append, List.nil_append, Nat.reduceEqDiff, Nat.reduceAdd, not_false_eq_true, not_true_eq_false, and_true, true_and, and_false, false_and, or_true, true_or, or_false, false_or, and_self, or_self, Bool.false_eq_true]
            · simp (disch := omega) only [CX7_count, SX7_count_0, SX7_count_1, G56, leN, w0, w1, w2, a71, s2, Option.bind_some, Option.bind_none, if_true, if_false, zr0, zr1, one11, one01, one0, one1, Option.toList_some, Option.toList_none, List.cons_append, List.nil_append, Nat.reduceEqDiff, Nat.reduceAdd, not_false_eq_true, not_true_eq_false, and_true, true_and, and_false, false_and, or_true, true_or, or_false, false_or, and_self, or_self, Bool.false_eq_true]
          · have n4l : ¬ nI ln = (-4) := fun z => by
              have := congrArg Int32.toInt z
              rw [nI_toInt (by omega)] at this
              have h4 : ((-4 : Int32)).toInt = -4 := by decide
              omega
            refine ⟨nI sz, mk Lx F A J, mk Lx F A J, ?_, ?_, F, A, J, rfl, hx, hI⟩
            · have s4' : F 48 2 = nI sz := s4
              simp (disch := omega) only [CX6_count, SX6_count_0, SX6_count_1, G0, w0, w1, w2, r31_0, Gs isS_48, s4', Option.bind_some, Option.bind_none, if_true, if_false, zr0, zr1, one11, one01, one0, one1, Option.toList_some, Option.toList_none, List.cons_append, List.nil_append, Nat.reduceEqDiff, Nat.reduceAdd, not_false_eq_true, not_true_eq_false, and_true, true_and, and_false, false_and, or_true, true_or, or_false, false_or, and_self, or_self, Bool.false_eq_true]
            · simp (disch := omega) only [CX7_count, SX7_count_0, SX7_count_1, G56, leN, w0, w1, w2, a71, a72, s5, s6, n4l, Option.bind_some, Option.bind_none, if_true, if_false, zr0, zr1, one11, one01, one0, one1, Option.toList_some, Option.toList_none, List.cons_append, List.nil_append, Nat.reduceEqDiff, Nat.reduceAdd, not_false_eq_true, not_true_eq_false, and_true, true_and, and_false, false_and, or_true, true_or, or_false, false_or, and_self, or_self, Bool.false_eq_true]
        · by_cases w4 : w = nI 4
          · subst w4
            refine ⟨nI (sumF (fun i => if c i 0 = 0 then c i 2 else 0) 0 n), mk Lx F A J, mk Lx F A J, ?_, ?_, F, A, J, rfl, hx, hI⟩
            · simp (disch := omega) only [CX6_count, SX6_count_0, SX6_count_1, G0, w0, w1, w2, w3, Op isP_12, c_secondsOf isP_12 hX hv, Option.bind_some, Option.bind_none, if_true, if_false, zr0, zr1, one11, one01, one0, one1, Option.toList_some, Option.toList_none, List.cons_append, List.nil_append, Nat.reduceEqDiff, Nat.reduceAdd, not_false_eq_true, not_true_eq_false, and_true, true_and, and_false, false_and, or_true, true_or, or_false, false_or, and_self, or_self, Bool.false_eq_true]
            · simp (disch := omega) only [CX7_count, SX7_count_0, SX7_count_1, O56, w0, w1, w2, w3, c_sumOf hM hv, Option.bind_some, Option.bind_none, if_true, if_false, zr0, zr1, one11, one01, one0, one1, Option.toList_some, Option.toList_none, List.cons_append, List.nil_append, Nat.reduceEqDiff, Nat.reduceAdd, not_false_eq_true, not_true_eq_false, and_true, true_and, and_false, false_and, or_true, true_or, or_false, false_or, and_self, or_self, Bool.false_eq_true]
          · by_cases w5 : w = nI 5
            · subst w5
              refine ⟨nI (sumF (fun i => if c i 0 = 5 then c i 2 else 0) 0 n), mk Lx F A J, mk Lx F A J, ?_, ?_, F, A, J, rfl, hx, hI⟩
              · simp (disch := omega) only [CX6_count, SX6_count_0, SX6_count_1, G0, w0, w1, w2, w3, w4, Op isP_12, c_secondsOf isP_12 hX hv, Option.bind_some, Option.bind_none, if_true, if_false, zr0, zr1, one11, one01, one0, one1, Option.toList_some, Option.toList_none, List.cons_append, List.nil_append, Nat.reduceEqDiff, Nat.reduceAdd, not_false_eq_true, not_true_eq_false, and_true, true_and, and_false, false_and, or_true, true_or, or_false, false_or, and_self, or_self, Bool.false_eq_true]
              · simp (disch := omega) only [CX7_count, SX7_count_0, SX7_count_1, O56, w0, w1, w2, w3, w4, c_sumOf hM hv, Option.bind_some, Option.bind_none, if_true, if_false, zr0, zr1, one11, one01, one0, one1, Option.toList_some, Option.toList_none, List.cons_append, List.nil_append, Nat.reduceEqDiff, Nat.reduceAdd, not_false_eq_true, not_true_eq_false, and_true, true_and, and_false, false_and, or_true, true_or, or_false, false_or, and_self, or_self, Bool.false_eq_true]
            · refine ⟨(-1), mk Lx F A J, mk Lx F A J, ?_, ?_, F, A, J, rfl, hx, hI⟩
              · simp only [CX6_count, SX6_count_0, SX6_count_1, w0, w1, w2, w3, w4, w5, Option.bind_some, Option.bind_none, if_true, if_false, zr0, zr1, one11, one01, one0, one1, Option.toList_some, Option.toList_none, List.cons_append, List.nil_append, Nat.reduceEqDiff, Nat.reduceAdd, not_false_eq_true, not_true_eq_false, and_true, true_and, and_false, false_and, or_true, true_or, or_false, false_or, and_self, or_self, Bool.false_eq_true]
              · simp only [CX7_count, SX7_count_0, SX7_count_1, w0, w1, w2, w3, w4, w5, Option.bind_some, Option.bind_none, if_true, if_false, zr0, zr1, one11, one01, one0, one1, Option.toList_some, Option.toList_none, List.cons_append, List.nil_append, Nat.reduceEqDiff, Nat.reduceAdd, not_false_eq_true, not_true_eq_false, and_true, true_and, and_false, false_and, or_true, true_or, or_false, false_or, and_self, or_self, Bool.false_eq_true]
end OPS7
