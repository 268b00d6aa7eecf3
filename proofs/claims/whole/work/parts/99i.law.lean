/-! the law, call after call -/
theorem lg_self (x : Int64) : lg_cmp x x = 0 := by
  unfold lg_cmp
  rw [if_neg (fun z => Int64.lt_irrefl z), if_pos rfl]
theorem dald_q {σ τ : dS} (h : dq σ τ) (i : Int32) : dald τ 75 0 i = dald σ 75 0 i := by
  have e : τ 75 = σ 75 := h.1
  unfold dald dai
  rw [e]
section LAW
variable {Lx : Nat} {xs : Nat → Int32} {σ : dS}
theorem iv_rd (h : Iv Lx xs σ) {j : Nat} (hj : j < Lx) (hl : Lx < 2 ^ 30) : dald σ 75 0 (nI j) = some (xs j) := by
  obtain ⟨F, A, J, rfl, hx, -⟩ := h
  rw [a75 hj (by omega), hx]
theorem iv_o0 (h : Iv Lx xs σ) : disO σ 0 5 = true := by
  obtain ⟨F, A, J, rfl, -⟩ := h
  exact O0
theorem iv_o56 (h : Iv Lx xs σ) : disO σ 56 6 = true := by
  obtain ⟨F, A, J, rfl, -⟩ := h
  exact O56
theorem iv_n (h : Iv Lx xs σ) : dalen σ 75 = some (nI Lx) := by
  obtain ⟨F, A, J, rfl, -⟩ := h
  exact n75
theorem lw_feed {i : Nat} (h : Iv Lx xs σ) (hi : i + 5 ≤ Lx) (hl : Lx < 2 ^ 30) (hX : ∀ σ2, Iv Lx xs σ2 → ∃ σ3, den mL_law 18 [some (.ref 75), some (.ref 0), some (.ref 56), some (.int (nI (i + 5)))] [] σ2 = some (some (.int (nI 1)), σ3)) : ∃ σ3, den mL_law 172 [some (.ref 75), some (.ref 0), some (.ref 56), some (.int (nI i))] [] σ = some (some (.int (nI 1)), σ3) := by
  obtain ⟨r, σ1, σ2, e1, e2, iv⟩ := op_feed h (xs (i + 1))
  have q := dcall_q e1
  obtain ⟨σ3, e⟩ := hX σ2 iv
  have a1 := iv_rd h (j := i + 1) (by omega) hl
  have b1 := (dald_q q (nI (i + 1))).trans a1
  have o1 := (q.2 56 6).trans (iv_o56 h)
  have o0 := iv_o0 h
  refine ⟨σ3, ?_⟩
  simp (disch := omega) only [SL_law_0, SL_law_1, SL_law_2, SL_law_3, SL_law_4, SL_law_5, SL_law_6, SL_law_7, SL_law_8, SL_law_9, SL_law_10, SL_law_11, SL_law_12, SL_law_13, SL_law_14, SL_law_15, SL_law_16, SL_law_17, leN, a1, b1, nI_add, o0, o1, e1, e2, e, eq_self_iff_true, Option.bind_some, Option.bind_none, if_true, if_false, zr0, zr1, one11, one01, one0, one1, Option.toList_some, Option.toList_none, List.cons_append, List.nil_append, Nat.reduceEqDiff, Nat.reduceAdd, not_false_eq_true, not_true_eq_false, and_true, true_and, and_false, false_and, or_true, true_or, or_false, false_or, and_self, or_self, Bool.false_eq_true]
theorem lw_end {i : Nat} (h : Iv Lx xs σ) (hi : i + 5 ≤ Lx) (hl : Lx < 2 ^ 30) (hX : ∀ σ2, Iv Lx xs σ2 → ∃ σ3, den mL_law 18 [some (.ref 75), some (.ref 0), some (.ref 56), some (.int (nI (i + 5)))] [] σ2 = some (some (.int (nI 1)), σ3)) : ∃ σ3, den mL_law 195 [some (.ref 75), some (.ref 0), some (.ref 56), some (.int (nI i))] [] σ = some (some (.int (nI 1)), σ3) := by
  obtain ⟨r, σ1, σ2, e1, e2, iv⟩ := op_end h (xs (i + 1))
  have q := dcall_q e1
  obtain ⟨σ3, e⟩ := hX σ2 iv
  have a1 := iv_rd h (j := i + 1) (by omega) hl
  have b1 := (dald_q q (nI (i + 1))).trans a1
  have o1 := (q.2 56 6).trans (iv_o56 h)
  have o0 := iv_o0 h
  refine ⟨σ3, ?_⟩
  simp (disch := omega) only [SL_law_0, SL_law_1, SL_law_2, SL_law_3, SL_law_4, SL_law_5, SL_law_6, SL_law_7, SL_law_8, SL_law_9, SL_law_10, SL_law_11, SL_law_12, SL_law_13, SL_law_14, SL_law_15, SL_law_16, SL_law_17, leN, a1, b1, nI_add, o0, o1, e1, e2, e, eq_self_iff_true, Option.bind_some, Option.bind_none, if_true, if_false, zr0, zr1, one11, one01, one0, one1, Option.toList_some, Option.toList_none, List.cons_append, List.nil_append, Nat.reduceEqDiff, Nat.reduceAdd, not_false_eq_true, not_true_eq_false, and_true, true_and, and_false, false_and, or_true, true_or, or_false, false_or, and_self, or_self, Bool.false_eq_true]
theorem lw_text {i : Nat} (h : Iv Lx xs σ) (hi : i + 5 ≤ Lx) (hl : Lx < 2 ^ 30) (hX : ∀ σ2, Iv Lx xs σ2 → ∃ σ3, den mL_law 18 [some (.ref 75), some (.ref 0), some (.ref 56), some (.int (nI (i + 5)))] [] σ2 = some (some (.int (nI 1)), σ3)) : ∃ σ3, den mL_law 218 [some (.ref 75), some (.ref 0), some (.ref 56), some (.int (nI i))] [] σ = some (some (.int (nI 1)), σ3) := by
  obtain ⟨r, σ1, σ2, e1, e2, iv⟩ := op_text h 
  have q := dcall_q e1
  obtain ⟨σ3, e⟩ := hX σ2 iv
  have o1 := (q.2 56 6).trans (iv_o56 h)
  have o0 := iv_o0 h
  refine ⟨σ3, ?_⟩
  simp (disch := omega) only [SL_law_0, SL_law_1, SL_law_2, SL_law_3, SL_law_4, SL_law_5, SL_law_6, SL_law_7, SL_law_8, SL_law_9, SL_law_10, SL_law_11, SL_law_12, SL_law_13, SL_law_14, SL_law_15, SL_law_16, SL_law_17, leN, nI_add, o0, o1, e1, e2, e, eq_self_iff_true, Option.bind_some, Option.bind_none, if_true, if_false, zr0, zr1, one11, one01, one0, one1, Option.toList_some, Option.toList_none, List.cons_append, List.nil_append, Nat.reduceEqDiff, Nat.reduceAdd, not_false_eq_true, not_true_eq_false, and_true, true_and, and_false, false_and, or_true, true_or, or_false, false_or, and_self, or_self, Bool.false_eq_true]
theorem lw_fault {i : Nat} (h : Iv Lx xs σ) (hi : i + 5 ≤ Lx) (hl : Lx < 2 ^ 30) (hX : ∀ σ2, Iv Lx xs σ2 → ∃ σ3, den mL_law 18 [some (.ref 75), some (.ref 0), some (.ref 56), some (.int (nI (i + 5)))] [] σ2 = some (some (.int (nI 1)), σ3)) : ∃ σ3, den mL_law 231 [some (.ref 75), some (.ref 0), some (.ref 56), some (.int (nI i))] [] σ = some (some (.int (nI 1)), σ3) := by
  obtain ⟨r, σ1, σ2, e1, e2, iv⟩ := op_fault h 
  have q := dcall_q e1
  obtain ⟨σ3, e⟩ := hX σ2 iv
  have o1 := (q.2 56 6).trans (iv_o56 h)
  have o0 := iv_o0 h
  refine ⟨σ3, ?_⟩
  simp (disch := omega) only [SL_law_0, SL_law_1, SL_law_2, SL_law_3, SL_law_4, SL_law_5, SL_law_6, SL_law_7, SL_law_8, SL_law_9, SL_law_10, SL_law_11, SL_law_12, SL_law_13, SL_law_14, SL_law_15, SL_law_16, SL_law_17, leN, nI_add, o0, o1, e1, e2, e, eq_self_iff_true, Option.bind_some, Option.bind_none, if_true, if_false, zr0, zr1, one11, one01, one0, one1, Option.toList_some, Option.toList_none, List.cons_append, List.nil_append, Nat.reduceEqDiff, Nat.reduceAdd, not_false_eq_true, not_true_eq_false, and_true, true_and, and_false, false_and, or_true, true_or, or_false, false_or, and_self, or_self, Bool.false_eq_true]
theorem lw_rule {i : Nat} (h : Iv Lx xs σ) (hi : i + 5 ≤ Lx) (hl : Lx < 2 ^ 30) (hX : ∀ σ2, Iv Lx xs σ2 → ∃ σ3, den mL_law 18 [some (.ref 75), some (.ref 0), some (.ref 56), some (.int (nI (i + 5)))] [] σ2 = some (some (.int (nI 1)), σ3)) : ∃ σ3, den mL_law 244 [some (.ref 75), some (.ref 0), some (.ref 56), some (.int (nI i))] [] σ = some (some (.int (nI 1)), σ3) := by
  obtain ⟨r, σ1, σ2, e1, e2, iv⟩ := op_rule h (xs (i + 1))
  have q := dcall_q e1
  obtain ⟨σ3, e⟩ := hX σ2 iv
  have a1 := iv_rd h (j := i + 1) (by omega) hl
  have b1 := (dald_q q (nI (i + 1))).trans a1
  have o1 := (q.2 56 6).trans (iv_o56 h)
  have o0 := iv_o0 h
  refine ⟨σ3, ?_⟩
  simp (disch := omega) only [SL_law_0, SL_law_1, SL_law_2, SL_law_3, SL_law_4, SL_law_5, SL_law_6, SL_law_7, SL_law_8, SL_law_9, SL_law_10, SL_law_11, SL_law_12, SL_law_13, SL_law_14, SL_law_15, SL_law_16, SL_law_17, leN, a1, b1, nI_add, o0, o1, e1, e2, e, eq_self_iff_true, Option.bind_some, Option.bind_none, if_true, if_false, zr0, zr1, one11, one01, one0, one1, Option.toList_some, Option.toList_none, List.cons_append, List.nil_append, Nat.reduceEqDiff, Nat.reduceAdd, not_false_eq_true, not_true_eq_false, and_true, true_and, and_false, false_and, or_true, true_or, or_false, false_or, and_self, or_self, Bool.false_eq_true]
theorem lw_code {i : Nat} (h : Iv Lx xs σ) (hi : i + 5 ≤ Lx) (hl : Lx < 2 ^ 30) (hX : ∀ σ2, Iv Lx xs σ2 → ∃ σ3, den mL_law 18 [some (.ref 75), some (.ref 0), some (.ref 56), some (.int (nI (i + 5)))] [] σ2 = some (some (.int (nI 1)), σ3)) : ∃ σ3, den mL_law 267 [some (.ref 75), some (.ref 0), some (.ref 56), some (.int (nI i))] [] σ = some (some (.int (nI 1)), σ3) := by
  obtain ⟨r, σ1, σ2, e1, e2, iv⟩ := op_code h (xs (i + 1)) (xs (i + 2))
  have q := dcall_q e1
  obtain ⟨σ3, e⟩ := hX σ2 iv
  have a1 := iv_rd h (j := i + 1) (by omega) hl
  have b1 := (dald_q q (nI (i + 1))).trans a1
  have a2 := iv_rd h (j := i + 2) (by omega) hl
  have b2 := (dald_q q (nI (i + 2))).trans a2
  have o1 := (q.2 56 6).trans (iv_o56 h)
  have o0 := iv_o0 h
  refine ⟨σ3, ?_⟩
  simp (disch := omega) only [SL_law_0, SL_law_1, SL_law_2, SL_law_3, SL_law_4, SL_law_5, SL_law_6, SL_law_7, SL_law_8, SL_law_9, SL_law_10, SL_law_11, SL_law_12, SL_law_13, SL_law_14, SL_law_15, SL_law_16, SL_law_17, leN, a1, b1, a2, b2, nI_add, o0, o1, e1, e2, e, eq_self_iff_true, Option.bind_some, Option.bind_none, if_true, if_false, zr0, zr1, one11, one01, one0, one1, Option.toList_some, Option.toList_none, List.cons_append, List.nil_append, Nat.reduceEqDiff, Nat.reduceAdd, not_false_eq_true, not_true_eq_false, and_true, true_and, and_false, false_and, or_true, true_or, or_false, false_or, and_self, or_self, Bool.false_eq_true]
theorem lw_guard {i : Nat} (h : Iv Lx xs σ) (hi : i + 5 ≤ Lx) (hl : Lx < 2 ^ 30) (hX : ∀ σ2, Iv Lx xs σ2 → ∃ σ3, den mL_law 18 [some (.ref 75), some (.ref 0), some (.ref 56), some (.int (nI (i + 5)))] [] σ2 = some (some (.int (nI 1)), σ3)) : ∃ σ3, den mL_law 300 [some (.ref 75), some (.ref 0), some (.ref 56), some (.int (nI i))] [] σ = some (some (.int (nI 1)), σ3) := by
  obtain ⟨r, σ1, σ2, e1, e2, iv⟩ := op_guard h (xs (i + 1)) (xs (i + 2))
  have q := dcall_q e1
  obtain ⟨σ3, e⟩ := hX σ2 iv
  have a1 := iv_rd h (j := i + 1) (by omega) hl
  have b1 := (dald_q q (nI (i + 1))).trans a1
  have a2 := iv_rd h (j := i + 2) (by omega) hl
  have b2 := (dald_q q (nI (i + 2))).trans a2
  have o1 := (q.2 56 6).trans (iv_o56 h)
  have o0 := iv_o0 h
  refine ⟨σ3, ?_⟩
  simp (disch := omega) only [SL_law_0, SL_law_1, SL_law_2, SL_law_3, SL_law_4, SL_law_5, SL_law_6, SL_law_7, SL_law_8, SL_law_9, SL_law_10, SL_law_11, SL_law_12, SL_law_13, SL_law_14, SL_law_15, SL_law_16, SL_law_17, leN, a1, b1, a2, b2, nI_add, o0, o1, e1, e2, e, eq_self_iff_true, Option.bind_some, Option.bind_none, if_true, if_false, zr0, zr1, one11, one01, one0, one1, Option.toList_some, Option.toList_none, List.cons_append, List.nil_append, Nat.reduceEqDiff, Nat.reduceAdd, not_false_eq_true, not_true_eq_false, and_true, true_and, and_false, false_and, or_true, true_or, or_false, false_or, and_self, or_self, Bool.false_eq_true]
theorem lw_within {i : Nat} (h : Iv Lx xs σ) (hi : i + 5 ≤ Lx) (hl : Lx < 2 ^ 30) (hX : ∀ σ2, Iv Lx xs σ2 → ∃ σ3, den mL_law 18 [some (.ref 75), some (.ref 0), some (.ref 56), some (.int (nI (i + 5)))] [] σ2 = some (some (.int (nI 1)), σ3)) : ∃ σ3, den mL_law 333 [some (.ref 75), some (.ref 0), some (.ref 56), some (.int (nI i))] [] σ = some (some (.int (nI 1)), σ3) := by
  obtain ⟨r, σ1, σ2, e1, e2, iv⟩ := op_within h (xs (i + 1)) (xs (i + 2))
  have q := dcall_q e1
  obtain ⟨σ3, e⟩ := hX σ2 iv
  have a1 := iv_rd h (j := i + 1) (by omega) hl
  have b1 := (dald_q q (nI (i + 1))).trans a1
  have a2 := iv_rd h (j := i + 2) (by omega) hl
  have b2 := (dald_q q (nI (i + 2))).trans a2
  have o1 := (q.2 56 6).trans (iv_o56 h)
  have o0 := iv_o0 h
  refine ⟨σ3, ?_⟩
  simp (disch := omega) only [SL_law_0, SL_law_1, SL_law_2, SL_law_3, SL_law_4, SL_law_5, SL_law_6, SL_law_7, SL_law_8, SL_law_9, SL_law_10, SL_law_11, SL_law_12, SL_law_13, SL_law_14, SL_law_15, SL_law_16, SL_law_17, leN, a1, b1, a2, b2, nI_add, o0, o1, e1, e2, e, eq_self_iff_true, Option.bind_some, Option.bind_none, if_true, if_false, zr0, zr1, one11, one01, one0, one1, Option.toList_some, Option.toList_none, List.cons_append, List.nil_append, Nat.reduceEqDiff, Nat.reduceAdd, not_false_eq_true, not_true_eq_false, and_true, true_and, and_false, false_and, or_true, true_or, or_false, false_or, and_self, or_self, Bool.false_eq_true]
theorem lw_apart {i : Nat} (h : Iv Lx xs σ) (hi : i + 5 ≤ Lx) (hl : Lx < 2 ^ 30) (hX : ∀ σ2, Iv Lx xs σ2 → ∃ σ3, den mL_law 18 [some (.ref 75), some (.ref 0), some (.ref 56), some (.int (nI (i + 5)))] [] σ2 = some (some (.int (nI 1)), σ3)) : ∃ σ3, den mL_law 366 [some (.ref 75), some (.ref 0), some (.ref 56), some (.int (nI i))] [] σ = some (some (.int (nI 1)), σ3) := by
  obtain ⟨r, σ1, σ2, e1, e2, iv⟩ := op_apart h (xs (i + 1)) (xs (i + 2))
  have q := dcall_q e1
  obtain ⟨σ3, e⟩ := hX σ2 iv
  have a1 := iv_rd h (j := i + 1) (by omega) hl
  have b1 := (dald_q q (nI (i + 1))).trans a1
  have a2 := iv_rd h (j := i + 2) (by omega) hl
  have b2 := (dald_q q (nI (i + 2))).trans a2
  have o1 := (q.2 56 6).trans (iv_o56 h)
  have o0 := iv_o0 h
  refine ⟨σ3, ?_⟩
  simp (disch := omega) only [SL_law_0, SL_law_1, SL_law_2, SL_law_3, SL_law_4, SL_law_5, SL_law_6, SL_law_7, SL_law_8, SL_law_9, SL_law_10, SL_law_11, SL_law_12, SL_law_13, SL_law_14, SL_law_15, SL_law_16, SL_law_17, leN, a1, b1, a2, b2, nI_add, o0, o1, e1, e2, e, eq_self_iff_true, Option.bind_some, Option.bind_none, if_true, if_false, zr0, zr1, one11, one01, one0, one1, Option.toList_some, Option.toList_none, List.cons_append, List.nil_append, Nat.reduceEqDiff, Nat.reduceAdd, not_false_eq_true, not_true_eq_false, and_true, true_and, and_false, false_and, or_true, true_or, or_false, false_or, and_self, or_self, Bool.false_eq_true]
theorem lw_cover {i : Nat} (h : Iv Lx xs σ) (hi : i + 5 ≤ Lx) (hl : Lx < 2 ^ 30) (hX : ∀ σ2, Iv Lx xs σ2 → ∃ σ3, den mL_law 18 [some (.ref 75), some (.ref 0), some (.ref 56), some (.int (nI (i + 5)))] [] σ2 = some (some (.int (nI 1)), σ3)) : ∃ σ3, den mL_law 399 [some (.ref 75), some (.ref 0), some (.ref 56), some (.int (nI i))] [] σ = some (some (.int (nI 1)), σ3) := by
  obtain ⟨r, σ1, σ2, e1, e2, iv⟩ := op_cover h (xs (i + 1)) (xs (i + 2))
  have q := dcall_q e1
  obtain ⟨σ3, e⟩ := hX σ2 iv
  have a1 := iv_rd h (j := i + 1) (by omega) hl
  have b1 := (dald_q q (nI (i + 1))).trans a1
  have a2 := iv_rd h (j := i + 2) (by omega) hl
  have b2 := (dald_q q (nI (i + 2))).trans a2
  have o1 := (q.2 56 6).trans (iv_o56 h)
  have o0 := iv_o0 h
  refine ⟨σ3, ?_⟩
  simp (disch := omega) only [SL_law_0, SL_law_1, SL_law_2, SL_law_3, SL_law_4, SL_law_5, SL_law_6, SL_law_7, SL_law_8, SL_law_9, SL_law_10, SL_law_11, SL_law_12, SL_law_13, SL_law_14, SL_law_15, SL_law_16, SL_law_17, leN, a1, b1, a2, b2, nI_add, o0, o1, e1, e2, e, eq_self_iff_true, Option.bind_some, Option.bind_none, if_true, if_false, zr0, zr1, one11, one01, one0, one1, Option.toList_some, Option.toList_none, List.cons_append, List.nil_append, Nat.reduceEqDiff, Nat.reduceAdd, not_false_eq_true, not_true_eq_false, and_true, true_and, and_false, false_and, or_true, true_or, or_false, false_or, and_self, or_self, Bool.false_eq_true]
theorem lw_run {i : Nat} (h : Iv Lx xs σ) (hi : i + 5 ≤ Lx) (hl : Lx < 2 ^ 30) (hX : ∀ σ2, Iv Lx xs σ2 → ∃ σ3, den mL_law 18 [some (.ref 75), some (.ref 0), some (.ref 56), some (.int (nI (i + 5)))] [] σ2 = some (some (.int (nI 1)), σ3)) : ∃ σ3, den mL_law 432 [some (.ref 75), some (.ref 0), some (.ref 56), some (.int (nI i))] [] σ = some (some (.int (nI 1)), σ3) := by
  obtain ⟨r, σ1, σ2, e1, e2, iv⟩ := op_run h (xs (i + 1)) (xs (i + 2)) (xs (i + 3)) (xs (i + 4))
  have q := dcall_q e1
  obtain ⟨σ3, e⟩ := hX σ2 iv
  have a1 := iv_rd h (j := i + 1) (by omega) hl
  have b1 := (dald_q q (nI (i + 1))).trans a1
  have a2 := iv_rd h (j := i + 2) (by omega) hl
  have b2 := (dald_q q (nI (i + 2))).trans a2
  have a3 := iv_rd h (j := i + 3) (by omega) hl
  have b3 := (dald_q q (nI (i + 3))).trans a3
  have a4 := iv_rd h (j := i + 4) (by omega) hl
  have b4 := (dald_q q (nI (i + 4))).trans a4
  have o1 := (q.2 56 6).trans (iv_o56 h)
  have o0 := iv_o0 h
  refine ⟨σ3, ?_⟩
  simp (disch := omega) only [SL_law_0, SL_law_1, SL_law_2, SL_law_3, SL_law_4, SL_law_5, SL_law_6, SL_law_7, SL_law_8, SL_law_9, SL_law_10, SL_law_11, SL_law_12, SL_law_13, SL_law_14, SL_law_15, SL_law_16, SL_law_17, leN, a1, b1, a2, b2, a3, b3, a4, b4, nI_add, o0, o1, e1, e2, e, eq_self_iff_true, Option.bind_some, Option.bind_none, if_true, if_false, zr0, zr1, one11, one01, one0, one1, Option.toList_some, Option.toList_none, List.cons_append, List.nil_append, Nat.reduceEqDiff, Nat.reduceAdd, not_false_eq_true, not_true_eq_false, and_true, true_and, and_false, false_and, or_true, true_or, or_false, false_or, and_self, or_self, Bool.false_eq_true]
theorem lw_value {i : Nat} (h : Iv Lx xs σ) (hi : i + 5 ≤ Lx) (hl : Lx < 2 ^ 30) (hX : ∀ σ2, Iv Lx xs σ2 → ∃ σ3, den mL_law 18 [some (.ref 75), some (.ref 0), some (.ref 56), some (.int (nI (i + 5)))] [] σ2 = some (some (.int (nI 1)), σ3)) : ∃ σ3, den mL_law 485 [some (.ref 75), some (.ref 0), some (.ref 56), some (.int (nI i))] [] σ = some (some (.int (nI 1)), σ3) := by
  obtain ⟨r, σ1, σ2, e1, e2, iv⟩ := op_value h (xs (i + 1))
  have q := dcall_q e1
  obtain ⟨σ3, e⟩ := hX σ2 iv
  have a1 := iv_rd h (j := i + 1) (by omega) hl
  have b1 := (dald_q q (nI (i + 1))).trans a1
  have o1 := (q.2 56 6).trans (iv_o56 h)
  have o0 := iv_o0 h
  refine ⟨σ3, ?_⟩
  simp (disch := omega) only [SL_law_0, SL_law_1, SL_law_2, SL_law_3, SL_law_4, SL_law_5, SL_law_6, SL_law_7, SL_law_8, SL_law_9, SL_law_10, SL_law_11, SL_law_12, SL_law_13, SL_law_14, SL_law_15, SL_law_16, SL_law_17, leN, a1, b1, nI_add, o0, o1, e1, e2, e, eq_self_iff_true, Option.bind_some, Option.bind_none, if_true, if_false, zr0, zr1, one11, one01, one0, one1, Option.toList_some, Option.toList_none, List.cons_append, List.nil_append, Nat.reduceEqDiff, Nat.reduceAdd, not_false_eq_true, not_true_eq_false, and_true, true_and, and_false, false_and, or_true, true_or, or_false, false_or, and_self, or_self, Bool.false_eq_true]
theorem lw_spent {i : Nat} (h : Iv Lx xs σ) (hi : i + 5 ≤ Lx) (hl : Lx < 2 ^ 30) (hX : ∀ σ2, Iv Lx xs σ2 → ∃ σ3, den mL_law 18 [some (.ref 75), some (.ref 0), some (.ref 56), some (.int (nI (i + 5)))] [] σ2 = some (some (.int (nI 1)), σ3)) : ∃ σ3, den mL_law 508 [some (.ref 75), some (.ref 0), some (.ref 56), some (.int (nI i))] [] σ = some (some (.int (nI 1)), σ3) := by
  obtain ⟨r, σ1, σ2, e1, e2, iv⟩ := op_spent h 
  have q := dcall_q e1
  obtain ⟨σ3, e⟩ := hX σ2 iv
  have o1 := (q.2 56 6).trans (iv_o56 h)
  have o0 := iv_o0 h
  refine ⟨σ3, ?_⟩
  simp (disch := omega) only [SL_law_0, SL_law_1, SL_law_2, SL_law_3, SL_law_4, SL_law_5, SL_law_6, SL_law_7, SL_law_8, SL_law_9, SL_law_10, SL_law_11, SL_law_12, SL_law_13, SL_law_14, SL_law_15, SL_law_16, SL_law_17, leN, nI_add, o0, o1, e1, e2, e, eq_self_iff_true, Option.bind_some, Option.bind_none, if_true, if_false, zr0, zr1, one11, one01, one0, one1, Option.toList_some, Option.toList_none, List.cons_append, List.nil_append, Nat.reduceEqDiff, Nat.reduceAdd, not_false_eq_true, not_true_eq_false, and_true, true_and, and_false, false_and, or_true, true_or, or_false, false_or, and_self, or_self, Bool.false_eq_true]
theorem lw_runs {i : Nat} (h : Iv Lx xs σ) (hi : i + 5 ≤ Lx) (hl : Lx < 2 ^ 30) (hX : ∀ σ2, Iv Lx xs σ2 → ∃ σ3, den mL_law 18 [some (.ref 75), some (.ref 0), some (.ref 56), some (.int (nI (i + 5)))] [] σ2 = some (some (.int (nI 1)), σ3)) : ∃ σ3, den mL_law 521 [some (.ref 75), some (.ref 0), some (.ref 56), some (.int (nI i))] [] σ = some (some (.int (nI 1)), σ3) := by
  obtain ⟨r, σ1, σ2, e1, e2, iv⟩ := op_runs h (xs (i + 1)) (xs (i + 2)) (xs (i + 3))
  have q := dcall_q e1
  obtain ⟨σ3, e⟩ := hX σ2 iv
  have a1 := iv_rd h (j := i + 1) (by omega) hl
  have b1 := (dald_q q (nI (i + 1))).trans a1
  have a2 := iv_rd h (j := i + 2) (by omega) hl
  have b2 := (dald_q q (nI (i + 2))).trans a2
  have a3 := iv_rd h (j := i + 3) (by omega) hl
  have b3 := (dald_q q (nI (i + 3))).trans a3
  have o1 := (q.2 56 6).trans (iv_o56 h)
  have o0 := iv_o0 h
  refine ⟨σ3, ?_⟩
  simp (disch := omega) only [SL_law_0, SL_law_1, SL_law_2, SL_law_3, SL_law_4, SL_law_5, SL_law_6, SL_law_7, SL_law_8, SL_law_9, SL_law_10, SL_law_11, SL_law_12, SL_law_13, SL_law_14, SL_law_15, SL_law_16, SL_law_17, leN, a1, b1, a2, b2, a3, b3, nI_add, o0, o1, e1, e2, e, eq_self_iff_true, Option.bind_some, Option.bind_none, if_true, if_false, zr0, zr1, one11, one01, one0, one1, Option.toList_some, Option.toList_none, List.cons_append, List.nil_append, Nat.reduceEqDiff, Nat.reduceAdd, not_false_eq_true, not_true_eq_false, and_true, true_and, and_false, false_and, or_true, true_or, or_false, false_or, and_self, or_self, Bool.false_eq_true]
theorem lw_wish {i : Nat} (h : Iv Lx xs σ) (hi : i + 5 ≤ Lx) (hl : Lx < 2 ^ 30) (hX : ∀ σ2, Iv Lx xs σ2 → ∃ σ3, den mL_law 18 [some (.ref 75), some (.ref 0), some (.ref 56), some (.int (nI (i + 5)))] [] σ2 = some (some (.int (nI 1)), σ3)) : ∃ σ3, den mL_law 564 [some (.ref 75), some (.ref 0), some (.ref 56), some (.int (nI i))] [] σ = some (some (.int (nI 1)), σ3) := by
  obtain ⟨r, σ1, σ2, e1, e2, iv⟩ := op_wish h (xs (i + 1)) (xs (i + 2))
  have q := dcall_q e1
  obtain ⟨σ3, e⟩ := hX σ2 iv
  have a1 := iv_rd h (j := i + 1) (by omega) hl
  have b1 := (dald_q q (nI (i + 1))).trans a1
  have a2 := iv_rd h (j := i + 2) (by omega) hl
  have b2 := (dald_q q (nI (i + 2))).trans a2
  have o1 := (q.2 56 6).trans (iv_o56 h)
  have o0 := iv_o0 h
  refine ⟨σ3, ?_⟩
  simp (disch := omega) only [SL_law_0, SL_law_1, SL_law_2, SL_law_3, SL_law_4, SL_law_5, SL_law_6, SL_law_7, SL_law_8, SL_law_9, SL_law_10, SL_law_11, SL_law_12, SL_law_13, SL_law_14, SL_law_15, SL_law_16, SL_law_17, leN, a1, b1, a2, b2, nI_add, o0, o1, e1, e2, e, eq_self_iff_true, Option.bind_some, Option.bind_none, if_true, if_false, zr0, zr1, one11, one01, one0, one1, Option.toList_some, Option.toList_none, List.cons_append, List.nil_append, Nat.reduceEqDiff, Nat.reduceAdd, not_false_eq_true, not_true_eq_false, and_true, true_and, and_false, false_and, or_true, true_or, or_false, false_or, and_self, or_self, Bool.false_eq_true]
theorem lw_want {i : Nat} (h : Iv Lx xs σ) (hi : i + 5 ≤ Lx) (hl : Lx < 2 ^ 30) (hX : ∀ σ2, Iv Lx xs σ2 → ∃ σ3, den mL_law 18 [some (.ref 75), some (.ref 0), some (.ref 56), some (.int (nI (i + 5)))] [] σ2 = some (some (.int (nI 1)), σ3)) : ∃ σ3, den mL_law 597 [some (.ref 75), some (.ref 0), some (.ref 56), some (.int (nI i))] [] σ = some (some (.int (nI 1)), σ3) := by
  obtain ⟨r, σ1, σ2, e1, e2, iv⟩ := op_want h (xs (i + 1)) (xs (i + 2))
  have q := dcall_q e1
  obtain ⟨σ3, e⟩ := hX σ2 iv
  have a1 := iv_rd h (j := i + 1) (by omega) hl
  have b1 := (dald_q q (nI (i + 1))).trans a1
  have a2 := iv_rd h (j := i + 2) (by omega) hl
  have b2 := (dald_q q (nI (i + 2))).trans a2
  have o1 := (q.2 56 6).trans (iv_o56 h)
  have o0 := iv_o0 h
  refine ⟨σ3, ?_⟩
  simp (disch := omega) only [SL_law_0, SL_law_1, SL_law_2, SL_law_3, SL_law_4, SL_law_5, SL_law_6, SL_law_7, SL_law_8, SL_law_9, SL_law_10, SL_law_11, SL_law_12, SL_law_13, SL_law_14, SL_law_15, SL_law_16, SL_law_17, leN, a1, b1, a2, b2, nI_add, o0, o1, e1, e2, e, eq_self_iff_true, Option.bind_some, Option.bind_none, if_true, if_false, zr0, zr1, one11, one01, one0, one1, Option.toList_some, Option.toList_none, List.cons_append, List.nil_append, Nat.reduceEqDiff, Nat.reduceAdd, not_false_eq_true, not_true_eq_false, and_true, true_and, and_false, false_and, or_true, true_or, or_false, false_or, and_self, or_self, Bool.false_eq_true]
theorem lw_mean {i : Nat} (h : Iv Lx xs σ) (hi : i + 5 ≤ Lx) (hl : Lx < 2 ^ 30) (hX : ∀ σ2, Iv Lx xs σ2 → ∃ σ3, den mL_law 18 [some (.ref 75), some (.ref 0), some (.ref 56), some (.int (nI (i + 5)))] [] σ2 = some (some (.int (nI 1)), σ3)) : ∃ σ3, den mL_law 630 [some (.ref 75), some (.ref 0), some (.ref 56), some (.int (nI i))] [] σ = some (some (.int (nI 1)), σ3) := by
  obtain ⟨r, σ1, σ2, e1, e2, iv⟩ := op_mean h (xs (i + 1))
  have q := dcall_q e1
  obtain ⟨σ3, e⟩ := hX σ2 iv
  have a1 := iv_rd h (j := i + 1) (by omega) hl
  have b1 := (dald_q q (nI (i + 1))).trans a1
  have o1 := (q.2 56 6).trans (iv_o56 h)
  have o0 := iv_o0 h
  refine ⟨σ3, ?_⟩
  simp (disch := omega) only [SL_law_0, SL_law_1, SL_law_2, SL_law_3, SL_law_4, SL_law_5, SL_law_6, SL_law_7, SL_law_8, SL_law_9, SL_law_10, SL_law_11, SL_law_12, SL_law_13, SL_law_14, SL_law_15, SL_law_16, SL_law_17, leN, a1, b1, nI_add, o0, o1, e1, e2, lg_self, e, eq_self_iff_true, Option.bind_some, Option.bind_none, if_true, if_false, zr0, zr1, one11, one01, one0, one1, Option.toList_some, Option.toList_none, List.cons_append, List.nil_append, Nat.reduceEqDiff, Nat.reduceAdd, not_false_eq_true, not_true_eq_false, and_true, true_and, and_false, false_and, or_true, true_or, or_false, false_or, and_self, or_self, Bool.false_eq_true]
theorem lw_odds {i : Nat} (h : Iv Lx xs σ) (hi : i + 5 ≤ Lx) (hl : Lx < 2 ^ 30) (hX : ∀ σ2, Iv Lx xs σ2 → ∃ σ3, den mL_law 18 [some (.ref 75), some (.ref 0), some (.ref 56), some (.int (nI (i + 5)))] [] σ2 = some (some (.int (nI 1)), σ3)) : ∃ σ3, den mL_law 654 [some (.ref 75), some (.ref 0), some (.ref 56), some (.int (nI i))] [] σ = some (some (.int (nI 1)), σ3) := by
  obtain ⟨r, σ1, σ2, e1, e2, iv⟩ := op_odds h (xs (i + 1)) (xs (i + 2))
  have q := dcall_q e1
  obtain ⟨σ3, e⟩ := hX σ2 iv
  have a1 := iv_rd h (j := i + 1) (by omega) hl
  have b1 := (dald_q q (nI (i + 1))).trans a1
  have a2 := iv_rd h (j := i + 2) (by omega) hl
  have b2 := (dald_q q (nI (i + 2))).trans a2
  have o1 := (q.2 56 6).trans (iv_o56 h)
  have o0 := iv_o0 h
  refine ⟨σ3, ?_⟩
  simp (disch := omega) only [SL_law_0, SL_law_1, SL_law_2, SL_law_3, SL_law_4, SL_law_5, SL_law_6, SL_law_7, SL_law_8, SL_law_9, SL_law_10, SL_law_11, SL_law_12, SL_law_13, SL_law_14, SL_law_15, SL_law_16, SL_law_17, leN, a1, b1, a2, b2, nI_add, o0, o1, e1, e2, lg_self, e, eq_self_iff_true, Option.bind_some, Option.bind_none, if_true, if_false, zr0, zr1, one11, one01, one0, one1, Option.toList_some, Option.toList_none, List.cons_append, List.nil_append, Nat.reduceEqDiff, Nat.reduceAdd, not_false_eq_true, not_true_eq_false, and_true, true_and, and_false, false_and, or_true, true_or, or_false, false_or, and_self, or_self, Bool.false_eq_true]
theorem lw_live {i : Nat} (h : Iv Lx xs σ) (hi : i + 5 ≤ Lx) (hl : Lx < 2 ^ 30) (hX : ∀ σ2, Iv Lx xs σ2 → ∃ σ3, den mL_law 18 [some (.ref 75), some (.ref 0), some (.ref 56), some (.int (nI (i + 5)))] [] σ2 = some (some (.int (nI 1)), σ3)) : ∃ σ3, den mL_law 688 [some (.ref 75), some (.ref 0), some (.ref 56), some (.int (nI i))] [] σ = some (some (.int (nI 1)), σ3) := by
  obtain ⟨r, σ1, σ2, e1, e2, iv⟩ := op_live h (xs (i + 1))
  have q := dcall_q e1
  obtain ⟨σ3, e⟩ := hX σ2 iv
  have a1 := iv_rd h (j := i + 1) (by omega) hl
  have b1 := (dald_q q (nI (i + 1))).trans a1
  have o1 := (q.2 56 6).trans (iv_o56 h)
  have o0 := iv_o0 h
  refine ⟨σ3, ?_⟩
  simp (disch := omega) only [SL_law_0, SL_law_1, SL_law_2, SL_law_3, SL_law_4, SL_law_5, SL_law_6, SL_law_7, SL_law_8, SL_law_9, SL_law_10, SL_law_11, SL_law_12, SL_law_13, SL_law_14, SL_law_15, SL_law_16, SL_law_17, leN, a1, b1, nI_add, o0, o1, e1, e2, e, eq_self_iff_true, Option.bind_some, Option.bind_none, if_true, if_false, zr0, zr1, one11, one01, one0, one1, Option.toList_some, Option.toList_none, List.cons_append, List.nil_append, Nat.reduceEqDiff, Nat.reduceAdd, not_false_eq_true, not_true_eq_false, and_true, true_and, and_false, false_and, or_true, true_or, or_false, false_or, and_self, or_self, Bool.false_eq_true]
theorem lw_out {i : Nat} (h : Iv Lx xs σ) (hi : i + 5 ≤ Lx) (hl : Lx < 2 ^ 30) (hX : ∀ σ2, Iv Lx xs σ2 → ∃ σ3, den mL_law 18 [some (.ref 75), some (.ref 0), some (.ref 56), some (.int (nI (i + 5)))] [] σ2 = some (some (.int (nI 1)), σ3)) : ∃ σ3, den mL_law 711 [some (.ref 75), some (.ref 0), some (.ref 56), some (.int (nI i))] [] σ = some (some (.int (nI 1)), σ3) := by
  obtain ⟨r, σ1, σ2, e1, e2, iv⟩ := op_out h (xs (i + 1))
  have q := dcall_q e1
  obtain ⟨σ3, e⟩ := hX σ2 iv
  have a1 := iv_rd h (j := i + 1) (by omega) hl
  have b1 := (dald_q q (nI (i + 1))).trans a1
  have o1 := (q.2 56 6).trans (iv_o56 h)
  have o0 := iv_o0 h
  refine ⟨σ3, ?_⟩
  simp (disch := omega) only [SL_law_0, SL_law_1, SL_law_2, SL_law_3, SL_law_4, SL_law_5, SL_law_6, SL_law_7, SL_law_8, SL_law_9, SL_law_10, SL_law_11, SL_law_12, SL_law_13, SL_law_14, SL_law_15, SL_law_16, SL_law_17, leN, a1, b1, nI_add, o0, o1, e1, e2, e, eq_self_iff_true, Option.bind_some, Option.bind_none, if_true, if_false, zr0, zr1, one11, one01, one0, one1, Option.toList_some, Option.toList_none, List.cons_append, List.nil_append, Nat.reduceEqDiff, Nat.reduceAdd, not_false_eq_true, not_true_eq_false, and_true, true_and, and_false, false_and, or_true, true_or, or_false, false_or, and_self, or_self, Bool.false_eq_true]
theorem lw_sweep {i : Nat} (h : Iv Lx xs σ) (hi : i + 5 ≤ Lx) (hl : Lx < 2 ^ 30) (hX : ∀ σ2, Iv Lx xs σ2 → ∃ σ3, den mL_law 18 [some (.ref 75), some (.ref 0), some (.ref 56), some (.int (nI (i + 5)))] [] σ2 = some (some (.int (nI 1)), σ3)) : ∃ σ3, den mL_law 734 [some (.ref 75), some (.ref 0), some (.ref 56), some (.int (nI i))] [] σ = some (some (.int (nI 1)), σ3) := by
  obtain ⟨r, σ1, σ2, e1, e2, iv⟩ := op_sweep h 
  have q := dcall_q e1
  obtain ⟨σ3, e⟩ := hX σ2 iv
  have o1 := (q.2 56 6).trans (iv_o56 h)
  have o0 := iv_o0 h
  refine ⟨σ3, ?_⟩
  simp (disch := omega) only [SL_law_0, SL_law_1, SL_law_2, SL_law_3, SL_law_4, SL_law_5, SL_law_6, SL_law_7, SL_law_8, SL_law_9, SL_law_10, SL_law_11, SL_law_12, SL_law_13, SL_law_14, SL_law_15, SL_law_16, SL_law_17, leN, nI_add, o0, o1, e1, e2, e, eq_self_iff_true, Option.bind_some, Option.bind_none, if_true, if_false, zr0, zr1, one11, one01, one0, one1, Option.toList_some, Option.toList_none, List.cons_append, List.nil_append, Nat.reduceEqDiff, Nat.reduceAdd, not_false_eq_true, not_true_eq_false, and_true, true_and, and_false, false_and, or_true, true_or, or_false, false_or, and_self, or_self, Bool.false_eq_true]
theorem lw_merge {i : Nat} (h : Iv Lx xs σ) (hi : i + 5 ≤ Lx) (hl : Lx < 2 ^ 30) (hX : ∀ σ2, Iv Lx xs σ2 → ∃ σ3, den mL_law 18 [some (.ref 75), some (.ref 0), some (.ref 56), some (.int (nI (i + 5)))] [] σ2 = some (some (.int (nI 1)), σ3)) : ∃ σ3, den mL_law 747 [some (.ref 75), some (.ref 0), some (.ref 56), some (.int (nI i))] [] σ = some (some (.int (nI 1)), σ3) := by
  obtain ⟨r, σ1, σ2, e1, e2, iv⟩ := op_merge h 
  have q := dcall_q e1
  obtain ⟨σ3, e⟩ := hX σ2 iv
  have o1 := (q.2 56 6).trans (iv_o56 h)
  have o0 := iv_o0 h
  refine ⟨σ3, ?_⟩
  simp (disch := omega) only [SL_law_0, SL_law_1, SL_law_2, SL_law_3, SL_law_4, SL_law_5, SL_law_6, SL_law_7, SL_law_8, SL_law_9, SL_law_10, SL_law_11, SL_law_12, SL_law_13, SL_law_14, SL_law_15, SL_law_16, SL_law_17, leN, nI_add, o0, o1, e1, e2, e, eq_self_iff_true, Option.bind_some, Option.bind_none, if_true, if_false, zr0, zr1, one11, one01, one0, one1, Option.toList_some, Option.toList_none, List.cons_append, List.nil_append, Nat.reduceEqDiff, Nat.reduceAdd, not_false_eq_true, not_true_eq_false, and_true, true_and, and_false, false_and, or_true, true_or, or_false, false_or, and_self, or_self, Bool.false_eq_true]
theorem lw_set {i : Nat} (h : Iv Lx xs σ) (hi : i + 5 ≤ Lx) (hl : Lx < 2 ^ 30) (hX : ∀ σ2, Iv Lx xs σ2 → ∃ σ3, den mL_law 18 [some (.ref 75), some (.ref 0), some (.ref 56), some (.int (nI (i + 5)))] [] σ2 = some (some (.int (nI 1)), σ3)) : ∃ σ3, den mL_law 760 [some (.ref 75), some (.ref 0), some (.ref 56), some (.int (nI i))] [] σ = some (some (.int (nI 1)), σ3) := by
  obtain ⟨r, σ1, σ2, e1, e2, iv⟩ := op_set h (xs (i + 1)) (xs (i + 2)) (xs (i + 3))
  have q := dcall_q e1
  obtain ⟨σ3, e⟩ := hX σ2 iv
  have a1 := iv_rd h (j := i + 1) (by omega) hl
  have b1 := (dald_q q (nI (i + 1))).trans a1
  have a2 := iv_rd h (j := i + 2) (by omega) hl
  have b2 := (dald_q q (nI (i + 2))).trans a2
  have a3 := iv_rd h (j := i + 3) (by omega) hl
  have b3 := (dald_q q (nI (i + 3))).trans a3
  have o1 := (q.2 56 6).trans (iv_o56 h)
  have o0 := iv_o0 h
  refine ⟨σ3, ?_⟩
  simp (disch := omega) only [SL_law_0, SL_law_1, SL_law_2, SL_law_3, SL_law_4, SL_law_5, SL_law_6, SL_law_7, SL_law_8, SL_law_9, SL_law_10, SL_law_11, SL_law_12, SL_law_13, SL_law_14, SL_law_15, SL_law_16, SL_law_17, leN, a1, b1, a2, b2, a3, b3, nI_add, o0, o1, e1, e2, e, eq_self_iff_true, Option.bind_some, Option.bind_none, if_true, if_false, zr0, zr1, one11, one01, one0, one1, Option.toList_some, Option.toList_none, List.cons_append, List.nil_append, Nat.reduceEqDiff, Nat.reduceAdd, not_false_eq_true, not_true_eq_false, and_true, true_and, and_false, false_and, or_true, true_or, or_false, false_or, and_self, or_self, Bool.false_eq_true]
theorem lw_turn {i : Nat} (h : Iv Lx xs σ) (hi : i + 5 ≤ Lx) (hl : Lx < 2 ^ 30) (hX : ∀ σ2, Iv Lx xs σ2 → ∃ σ3, den mL_law 18 [some (.ref 75), some (.ref 0), some (.ref 56), some (.int (nI (i + 5)))] [] σ2 = some (some (.int (nI 1)), σ3)) : ∃ σ3, den mL_law 803 [some (.ref 75), some (.ref 0), some (.ref 56), some (.int (nI i))] [] σ = some (some (.int (nI 1)), σ3) := by
  obtain ⟨r, σ1, σ2, e1, e2, iv⟩ := op_turn h (xs (i + 1)) (xs (i + 2))
  have q := dcall_q e1
  obtain ⟨σ3, e⟩ := hX σ2 iv
  have a1 := iv_rd h (j := i + 1) (by omega) hl
  have b1 := (dald_q q (nI (i + 1))).trans a1
  have a2 := iv_rd h (j := i + 2) (by omega) hl
  have b2 := (dald_q q (nI (i + 2))).trans a2
  have o1 := (q.2 56 6).trans (iv_o56 h)
  have o0 := iv_o0 h
  refine ⟨σ3, ?_⟩
  simp (disch := omega) only [SL_law_0, SL_law_1, SL_law_2, SL_law_3, SL_law_4, SL_law_5, SL_law_6, SL_law_7, SL_law_8, SL_law_9, SL_law_10, SL_law_11, SL_law_12, SL_law_13, SL_law_14, SL_law_15, SL_law_16, SL_law_17, leN, a1, b1, a2, b2, nI_add, o0, o1, e1, e2, e, eq_self_iff_true, Option.bind_some, Option.bind_none, if_true, if_false, zr0, zr1, one11, one01, one0, one1, Option.toList_some, Option.toList_none, List.cons_append, List.nil_append, Nat.reduceEqDiff, Nat.reduceAdd, not_false_eq_true, not_true_eq_false, and_true, true_and, and_false, false_and, or_true, true_or, or_false, false_or, and_self, or_self, Bool.false_eq_true]
theorem lw_keep {i : Nat} (h : Iv Lx xs σ) (hi : i + 5 ≤ Lx) (hl : Lx < 2 ^ 30) (hX : ∀ σ2, Iv Lx xs σ2 → ∃ σ3, den mL_law 18 [some (.ref 75), some (.ref 0), some (.ref 56), some (.int (nI (i + 5)))] [] σ2 = some (some (.int (nI 1)), σ3)) : ∃ σ3, den mL_law 836 [some (.ref 75), some (.ref 0), some (.ref 56), some (.int (nI i))] [] σ = some (some (.int (nI 1)), σ3) := by
  obtain ⟨r, σ1, σ2, e1, e2, iv⟩ := op_keep h (xs (i + 1))
  have q := dcall_q e1
  obtain ⟨σ3, e⟩ := hX σ2 iv
  have a1 := iv_rd h (j := i + 1) (by omega) hl
  have b1 := (dald_q q (nI (i + 1))).trans a1
  have o1 := (q.2 56 6).trans (iv_o56 h)
  have o0 := iv_o0 h
  refine ⟨σ3, ?_⟩
  simp (disch := omega) only [SL_law_0, SL_law_1, SL_law_2, SL_law_3, SL_law_4, SL_law_5, SL_law_6, SL_law_7, SL_law_8, SL_law_9, SL_law_10, SL_law_11, SL_law_12, SL_law_13, SL_law_14, SL_law_15, SL_law_16, SL_law_17, leN, a1, b1, nI_add, o0, o1, e1, e2, e, eq_self_iff_true, Option.bind_some, Option.bind_none, if_true, if_false, zr0, zr1, one11, one01, one0, one1, Option.toList_some, Option.toList_none, List.cons_append, List.nil_append, Nat.reduceEqDiff, Nat.reduceAdd, not_false_eq_true, not_true_eq_false, and_true, true_and, and_false, false_and, or_true, true_or, or_false, false_or, and_self, or_self, Bool.false_eq_true]
theorem lw_back {i : Nat} (h : Iv Lx xs σ) (hi : i + 5 ≤ Lx) (hl : Lx < 2 ^ 30) (hX : ∀ σ2, Iv Lx xs σ2 → ∃ σ3, den mL_law 18 [some (.ref 75), some (.ref 0), some (.ref 56), some (.int (nI (i + 5)))] [] σ2 = some (some (.int (nI 1)), σ3)) : ∃ σ3, den mL_law 859 [some (.ref 75), some (.ref 0), some (.ref 56), some (.int (nI i))] [] σ = some (some (.int (nI 1)), σ3) := by
  obtain ⟨r, σ1, σ2, e1, e2, iv⟩ := op_back h (xs (i + 1))
  have q := dcall_q e1
  obtain ⟨σ3, e⟩ := hX σ2 iv
  have a1 := iv_rd h (j := i + 1) (by omega) hl
  have b1 := (dald_q q (nI (i + 1))).trans a1
  have o1 := (q.2 56 6).trans (iv_o56 h)
  have o0 := iv_o0 h
  refine ⟨σ3, ?_⟩
  simp (disch := omega) only [SL_law_0, SL_law_1, SL_law_2, SL_law_3, SL_law_4, SL_law_5, SL_law_6, SL_law_7, SL_law_8, SL_law_9, SL_law_10, SL_law_11, SL_law_12, SL_law_13, SL_law_14, SL_law_15, SL_law_16, SL_law_17, leN, a1, b1, nI_add, o0, o1, e1, e2, e, eq_self_iff_true, Option.bind_some, Option.bind_none, if_true, if_false, zr0, zr1, one11, one01, one0, one1, Option.toList_some, Option.toList_none, List.cons_append, List.nil_append, Nat.reduceEqDiff, Nat.reduceAdd, not_false_eq_true, not_true_eq_false, and_true, true_and, and_false, false_and, or_true, true_or, or_false, false_or, and_self, or_self, Bool.false_eq_true]
theorem lw_sheet {i : Nat} (h : Iv Lx xs σ) (hi : i + 5 ≤ Lx) (hl : Lx < 2 ^ 30) (hX : ∀ σ2, Iv Lx xs σ2 → ∃ σ3, den mL_law 18 [some (.ref 75), some (.ref 0), some (.ref 56), some (.int (nI (i + 5)))] [] σ2 = some (some (.int (nI 1)), σ3)) : ∃ σ3, den mL_law 882 [some (.ref 75), some (.ref 0), some (.ref 56), some (.int (nI i))] [] σ = some (some (.int (nI 1)), σ3) := by
  obtain ⟨r, σ1, σ2, e1, e2, iv⟩ := op_sheet h (xs (i + 1)) (xs (i + 2)) (xs (i + 3))
  have q := dcall_q e1
  obtain ⟨σ3, e⟩ := hX σ2 iv
  have a1 := iv_rd h (j := i + 1) (by omega) hl
  have b1 := (dald_q q (nI (i + 1))).trans a1
  have a2 := iv_rd h (j := i + 2) (by omega) hl
  have b2 := (dald_q q (nI (i + 2))).trans a2
  have a3 := iv_rd h (j := i + 3) (by omega) hl
  have b3 := (dald_q q (nI (i + 3))).trans a3
  have o1 := (q.2 56 6).trans (iv_o56 h)
  have o0 := iv_o0 h
  refine ⟨σ3, ?_⟩
  simp (disch := omega) only [SL_law_0, SL_law_1, SL_law_2, SL_law_3, SL_law_4, SL_law_5, SL_law_6, SL_law_7, SL_law_8, SL_law_9, SL_law_10, SL_law_11, SL_law_12, SL_law_13, SL_law_14, SL_law_15, SL_law_16, SL_law_17, leN, a1, b1, a2, b2, a3, b3, nI_add, o0, o1, e1, e2, e, eq_self_iff_true, Option.bind_some, Option.bind_none, if_true, if_false, zr0, zr1, one11, one01, one0, one1, Option.toList_some, Option.toList_none, List.cons_append, List.nil_append, Nat.reduceEqDiff, Nat.reduceAdd, not_false_eq_true, not_true_eq_false, and_true, true_and, and_false, false_and, or_true, true_or, or_false, false_or, and_self, or_self, Bool.false_eq_true]
theorem lw_lay {i : Nat} (h : Iv Lx xs σ) (hi : i + 5 ≤ Lx) (hl : Lx < 2 ^ 30) (hX : ∀ σ2, Iv Lx xs σ2 → ∃ σ3, den mL_law 18 [some (.ref 75), some (.ref 0), some (.ref 56), some (.int (nI (i + 5)))] [] σ2 = some (some (.int (nI 1)), σ3)) : ∃ σ3, den mL_law 925 [some (.ref 75), some (.ref 0), some (.ref 56), some (.int (nI i))] [] σ = some (some (.int (nI 1)), σ3) := by
  obtain ⟨r, σ1, σ2, e1, e2, iv⟩ := op_lay h (xs (i + 1)) (xs (i + 2)) (xs (i + 3))
  have q := dcall_q e1
  obtain ⟨σ3, e⟩ := hX σ2 iv
  have a1 := iv_rd h (j := i + 1) (by omega) hl
  have b1 := (dald_q q (nI (i + 1))).trans a1
  have a2 := iv_rd h (j := i + 2) (by omega) hl
  have b2 := (dald_q q (nI (i + 2))).trans a2
  have a3 := iv_rd h (j := i + 3) (by omega) hl
  have b3 := (dald_q q (nI (i + 3))).trans a3
  have o1 := (q.2 56 6).trans (iv_o56 h)
  have o0 := iv_o0 h
  refine ⟨σ3, ?_⟩
  simp (disch := omega) only [SL_law_0, SL_law_1, SL_law_2, SL_law_3, SL_law_4, SL_law_5, SL_law_6, SL_law_7, SL_law_8, SL_law_9, SL_law_10, SL_law_11, SL_law_12, SL_law_13, SL_law_14, SL_law_15, SL_law_16, SL_law_17, leN, a1, b1, a2, b2, a3, b3, nI_add, o0, o1, e1, e2, e, eq_self_iff_true, Option.bind_some, Option.bind_none, if_true, if_false, zr0, zr1, one11, one01, one0, one1, Option.toList_some, Option.toList_none, List.cons_append, List.nil_append, Nat.reduceEqDiff, Nat.reduceAdd, not_false_eq_true, not_true_eq_false, and_true, true_and, and_false, false_and, or_true, true_or, or_false, false_or, and_self, or_self, Bool.false_eq_true]
theorem lw_read {i : Nat} (h : Iv Lx xs σ) (hi : i + 5 ≤ Lx) (hl : Lx < 2 ^ 30) (hX : ∀ σ2, Iv Lx xs σ2 → ∃ σ3, den mL_law 18 [some (.ref 75), some (.ref 0), some (.ref 56), some (.int (nI (i + 5)))] [] σ2 = some (some (.int (nI 1)), σ3)) : ∃ σ3, den mL_law 968 [some (.ref 75), some (.ref 0), some (.ref 56), some (.int (nI i))] [] σ = some (some (.int (nI 1)), σ3) := by
  obtain ⟨r, σ1, σ2, e1, e2, iv⟩ := op_read h (xs (i + 1)) (xs (i + 2)) (xs (i + 3)) (xs (i + 4))
  have q := dcall_q e1
  obtain ⟨σ3, e⟩ := hX σ2 iv
  have a1 := iv_rd h (j := i + 1) (by omega) hl
  have b1 := (dald_q q (nI (i + 1))).trans a1
  have a2 := iv_rd h (j := i + 2) (by omega) hl
  have b2 := (dald_q q (nI (i + 2))).trans a2
  have a3 := iv_rd h (j := i + 3) (by omega) hl
  have b3 := (dald_q q (nI (i + 3))).trans a3
  have a4 := iv_rd h (j := i + 4) (by omega) hl
  have b4 := (dald_q q (nI (i + 4))).trans a4
  have o1 := (q.2 56 6).trans (iv_o56 h)
  have o0 := iv_o0 h
  refine ⟨σ3, ?_⟩
  simp (disch := omega) only [SL_law_0, SL_law_1, SL_law_2, SL_law_3, SL_law_4, SL_law_5, SL_law_6, SL_law_7, SL_law_8, SL_law_9, SL_law_10, SL_law_11, SL_law_12, SL_law_13, SL_law_14, SL_law_15, SL_law_16, SL_law_17, leN, a1, b1, a2, b2, a3, b3, a4, b4, nI_add, o0, o1, e1, e2, e, eq_self_iff_true, Option.bind_some, Option.bind_none, if_true, if_false, zr0, zr1, one11, one01, one0, one1, Option.toList_some, Option.toList_none, List.cons_append, List.nil_append, Nat.reduceEqDiff, Nat.reduceAdd, not_false_eq_true, not_true_eq_false, and_true, true_and, and_false, false_and, or_true, true_or, or_false, false_or, and_self, or_self, Bool.false_eq_true]
theorem lw_torn {i : Nat} (h : Iv Lx xs σ) (hi : i + 5 ≤ Lx) (hl : Lx < 2 ^ 30) (hX : ∀ σ2, Iv Lx xs σ2 → ∃ σ3, den mL_law 18 [some (.ref 75), some (.ref 0), some (.ref 56), some (.int (nI (i + 5)))] [] σ2 = some (some (.int (nI 1)), σ3)) : ∃ σ3, den mL_law 1021 [some (.ref 75), some (.ref 0), some (.ref 56), some (.int (nI i))] [] σ = some (some (.int (nI 1)), σ3) := by
  obtain ⟨r, σ1, σ2, e1, e2, iv⟩ := op_torn h 
  have q := dcall_q e1
  obtain ⟨σ3, e⟩ := hX σ2 iv
  have o1 := (q.2 56 6).trans (iv_o56 h)
  have o0 := iv_o0 h
  refine ⟨σ3, ?_⟩
  simp (disch := omega) only [SL_law_0, SL_law_1, SL_law_2, SL_law_3, SL_law_4, SL_law_5, SL_law_6, SL_law_7, SL_law_8, SL_law_9, SL_law_10, SL_law_11, SL_law_12, SL_law_13, SL_law_14, SL_law_15, SL_law_16, SL_law_17, leN, nI_add, o0, o1, e1, e2, e, eq_self_iff_true, Option.bind_some, Option.bind_none, if_true, if_false, zr0, zr1, one11, one01, one0, one1, Option.toList_some, Option.toList_none, List.cons_append, List.nil_append, Nat.reduceEqDiff, Nat.reduceAdd, not_false_eq_true, not_true_eq_false, and_true, true_and, and_false, false_and, or_true, true_or, or_false, false_or, and_self, or_self, Bool.false_eq_true]
theorem lw_count {i : Nat} (h : Iv Lx xs σ) (hi : i + 5 ≤ Lx) (hl : Lx < 2 ^ 30) (hX : ∀ σ2, Iv Lx xs σ2 → ∃ σ3, den mL_law 18 [some (.ref 75), some (.ref 0), some (.ref 56), some (.int (nI (i + 5)))] [] σ2 = some (some (.int (nI 1)), σ3)) : ∃ σ3, den mL_law 1034 [some (.ref 75), some (.ref 0), some (.ref 56), some (.int (nI i))] [] σ = some (some (.int (nI 1)), σ3) := by
  obtain ⟨r, σ1, σ2, e1, e2, iv⟩ := op_count h (xs (i + 1))
  have q := dcall_q e1
  obtain ⟨σ3, e⟩ := hX σ2 iv
  have a1 := iv_rd h (j := i + 1) (by omega) hl
  have b1 := (dald_q q (nI (i + 1))).trans a1
  have o1 := (q.2 56 6).trans (iv_o56 h)
  have o0 := iv_o0 h
  refine ⟨σ3, ?_⟩
  simp (disch := omega) only [SL_law_0, SL_law_1, SL_law_2, SL_law_3, SL_law_4, SL_law_5, SL_law_6, SL_law_7, SL_law_8, SL_law_9, SL_law_10, SL_law_11, SL_law_12, SL_law_13, SL_law_14, SL_law_15, SL_law_16, SL_law_17, leN, a1, b1, nI_add, o0, o1, e1, e2, e, eq_self_iff_true, Option.bind_some, Option.bind_none, if_true, if_false, zr0, zr1, one11, one01, one0, one1, Option.toList_some, Option.toList_none, List.cons_append, List.nil_append, Nat.reduceEqDiff, Nat.reduceAdd, not_false_eq_true, not_true_eq_false, and_true, true_and, and_false, false_and, or_true, true_or, or_false, false_or, and_self, or_self, Bool.false_eq_true]
end LAW
