section OPS10
variable {Lx : Nat} {xs : Nat → Int32} {σ : dS}
theorem c_guardedMany {F A : Nat → Nat → Int32} {J : Nat → Nat → Int64} {n ou : Nat} {c : Nat → Nat → Nat} {ws : Nat → Nat} (h : M0 (A 57) n c ws ou) (hv : PV n c ws ou) : ∃ A' J', dcall mX7_guardedMany [.ref 56] (mk Lx F A J) = some (some (.int (nI (guM c n ws 0 (nif c n)))), mk Lx F A' J') ∧ (∀ q, q ≠ 63 → q ≠ 65 → A' q = A q) := by
  obtain ⟨A', J', g1, g2, g3, g4, g5⟩ := c_findMeans (Lx := Lx) (F := F) (J := J) h hv
  have h' : M0 (A' 57) n c ws ou := by rw [g4 57 (by decide) (by decide)]; exact h
  have e := l_gMany (Lx := Lx) (F := F) (J := J') h' hv g2 (nif c n) 0 0 (by omega)
  rw [Nat.zero_add] at e
  refine ⟨A', J', ?_, g4⟩
  simp only [CX7_guardedMany, SX7_guardedMany, O56, g1, e, Option.bind_some, Option.bind_none, if_true, if_false, zr0, zr1, one11, one01, one0, one1, Option.toList_some, Option.toList_none, List.cons_append, List.nil_append, Nat.reduceEqDiff, Nat.reduceAdd, not_false_eq_true, not_true_eq_false, and_true, true_and, and_false, false_and, or_true, true_or, or_false, false_or, and_self, or_self, Bool.false_eq_true]
theorem op_rule (h : Iv Lx xs σ) (w : Int32) : okI Lx xs mX6_rule mX7_rule [.int w] σ := by
  obtain ⟨F, A, J, rfl, hx, hI⟩ := h
  obtain ⟨hT, hP, ⟨hI0, hI1⟩, hR, ⟨hS0, hS1, hS2, hS3⟩, hf, hto⟩ := id hI
  obtain ⟨n, c, ws, ou, hv, hX, hM⟩ := id hP
  have hn6 := hv.2.1
  by_cases w0 : w = nI 0
  · refine ⟨nI n, mk Lx F A J, mk Lx F A J, ?_, ?_, F, A, J, rfl, hx, hI⟩
    · simp (disch := omega) only [CX6_rule, SX6_rule, G0, Gp isP_12, w0, hX.1, Option.bind_some, Option.bind_none, if_true, if_false, zr0, zr1, one11, one01, one0, one1, Option.toList_some, Option.toList_none, List.cons_append, List.nil_append, Nat.reduceEqDiff, Nat.reduceAdd, not_false_eq_true, not_true_eq_false, and_true, true_and, and_false, false_and, or_true, true_or, or_false, false_or, and_self, or_self, Bool.false_eq_true]
    · simp (disch := omega) only [CX7_rule, SX7_rule, G56, leN, a57, w0, hM.1, Option.bind_some, Option.bind_none, if_true, if_false, zr0, zr1, one11, one01, one0, one1, Option.toList_some, Option.toList_none, List.cons_append, List.nil_append, Nat.reduceEqDiff, Nat.reduceAdd, not_false_eq_true, not_true_eq_false, and_true, true_and, and_false, false_and, or_true, true_or, or_false, false_or, and_self, or_self, Bool.false_eq_true]
  by_cases w1 : w = nI 1
  · subst w1
    refine ⟨nI (nif c n), mk Lx F A J, mk Lx F A J, ?_, ?_, F, A, J, rfl, hx, hI⟩
    · simp (disch := omega) only [CX6_rule, SX6_rule, G0, Gp isP_12, w0, hX.2.1, Option.bind_some, Option.bind_none, if_true, if_false, zr0, zr1, one11, one01, one0, one1, Option.toList_some, Option.toList_none, List.cons_append, List.nil_append, Nat.reduceEqDiff, Nat.reduceAdd, not_false_eq_true, not_true_eq_false, and_true, true_and, and_false, false_and, or_true, true_or, or_false, false_or, and_self, or_self, Bool.false_eq_true]
    · simp (disch := omega) only [CX7_rule, SX7_rule, O56, w0, c_ifs hM hv, Option.bind_some, Option.bind_none, if_true, if_false, zr0, zr1, one11, one01, one0, one1, Option.toList_some, Option.toList_none, List.cons_append, List.nil_append, Nat.reduceEqDiff, Nat.reduceAdd, not_false_eq_true, not_true_eq_false, and_true, true_and, and_false, false_and, or_true, true_or, or_false, false_or, and_self, or_self, Bool.false_eq_true]
  by_cases w2 : w = nI 2
  · subst w2
    refine ⟨nI (maxF (dep c n 6) 0 (2 * nif c n + 1) 0), mk Lx F A J, mk Lx F A J, ?_, ?_, F, A, J, rfl, hx, hI⟩
    · simp (disch := omega) only [CX6_rule, SX6_rule, G0, Op isP_12, w0, w1, c_greatestDepth isP_12 hX hv, Option.bind_some, Option.bind_none, if_true, if_false, zr0, zr1, one11, one01, one0, one1, Option.toList_some, Option.toList_none, List.cons_append, List.nil_append, Nat.reduceEqDiff, Nat.reduceAdd, not_false_eq_true, not_true_eq_false, and_true, true_and, and_false, false_and, or_true, true_or, or_false, false_or, and_self, or_self, Bool.false_eq_true]
    · simp (disch := omega) only [CX7_rule, SX7_rule, O56, w0, w1, c_deepest hM hv, Option.bind_some, Option.bind_none, if_true, if_false, zr0, zr1, one11, one01, one0, one1, Option.toList_some, Option.toList_none, List.cons_append, List.nil_append, Nat.reduceEqDiff, Nat.reduceAdd, not_false_eq_true, not_true_eq_false, and_true, true_and, and_false, false_and, or_true, true_or, or_false, false_or, and_self, or_self, Bool.false_eq_true]
  by_cases w3 : w = nI 3
  · subst w3
    refine ⟨nI ou, mk Lx F A J, mk Lx F A J, ?_, ?_, F, A, J, rfl, hx, hI⟩
    · simp (disch := omega) only [CX6_rule, SX6_rule, G0, Gp isP_12, w0, w1, w2, hX.2.2.1, Option.bind_some, Option.bind_none, if_true, if_false, zr0, zr1, one11, one01, one0, one1, Option.toList_some, Option.toList_none, List.cons_append, List.nil_append, Nat.reduceEqDiff, Nat.reduceAdd, not_false_eq_true, not_true_eq_false, and_true, true_and, and_false, false_and, or_true, true_or, or_false, false_or, and_self, or_self, Bool.false_eq_true]
    · simp (disch := omega) only [CX7_rule, SX7_rule, G56, leN, a57, w0, w1, w2, hM.2.1, Option.bind_some, Option.bind_none, if_true, if_false, zr0, zr1, one11, one01, one0, one1, Option.toList_some, Option.toList_none, List.cons_append, List.nil_append, Nat.reduceEqDiff, Nat.reduceAdd, not_false_eq_true, not_true_eq_false, and_true, true_and, and_false, false_and, or_true, true_or, or_false, false_or, and_self, or_self, Bool.false_eq_true]
  by_cases w4 : w = nI 4
  · subst w4
    obtain ⟨A1, J1, g1, g2, g3, g4⟩ := c_measured (Lx := Lx) (J := J) hX hv
    have hX1 : XP F A1 12 n c ws ou := hX.fr rfl (fun d _ _ => by apply g3 <;> omega)
    have hM1 : M0 (A1 57) n c ws ou := by rw [g3 57 (by decide) (by decide) (by decide)]; exact hM
    have e1 := l_gIfs (Lx := Lx) (J := J1) isP_12 hX1 hv g2.2.2.2 (nif c n) 0 0 (by omega)
    rw [Nat.zero_add] at e1
    have e2 : dcall mX0_guardedIfs [.ref 22, .ref 12] (mk Lx F A1 J1) = some (some (.int (nI (guM c n ws 0 (nif c n)))), mk Lx F A1 J1) := by
      simp only [CX0_guardedIfs, SX0_guardedIfs, e1, Option.bind_some, Option.bind_none, if_true, if_false, zr0, zr1, one11, one01, one0, one1, Option.toList_some, Option.toList_none, List.cons_append, List.nil_append, Nat.reduceEqDiff, Nat.reduceAdd, not_false_eq_true, not_true_eq_false, and_true, true_and, and_false, false_and, or_true, true_or, or_false, false_or, and_self, or_self, Bool.false_eq_true]
    obtain ⟨A2, J2, k1, k2⟩ := c_guardedMany (Lx := Lx) (F := F) (J := J1) hM1 hv
    refine ⟨nI (guM c n ws 0 (nif c n)), mk Lx F A1 J1, mk Lx F A2 J2, ?_, ?_, F, A2, J2, rfl, ?_, hI.frA (fun q h1 h2 h3 h4 h5 => by rw [k2 q h4 h5, g3 q h1 h2 h3])⟩
    · simp (disch := omega) only [CX6_rule, SX6_rule, G0, O0, O22, w0, w1, w2, w3, g1, e2, Option.bind_some, Option.bind_none, if_true, if_false, zr0, zr1, one11, one01, one0, one1, Option.toList_some, Option.toList_none, List.cons_append, List.nil_append, Nat.reduceEqDiff, Nat.reduceAdd, not_false_eq_true, not_true_eq_false, and_true, true_and, and_false, false_and, or_true, true_or, or_false, false_or, and_self, or_self, Bool.false_eq_true]
    · simp (disch := omega) only [CX7_rule, SX7_rule, O56, w0, w1, w2, w3, k1, Option.bind_some, Option.bind_none, if_true, if_false, zr0, zr1, one11, one01, one0, one1, Option.toList_some, Option.toList_none, List.cons_append, List.nil_append, Nat.reduceEqDiff, Nat.reduceAdd, not_false_eq_true, not_true_eq_false, and_true, true_and, and_false, false_and, or_true, true_or, or_false, false_or, and_self, or_self, Bool.false_eq_true]
    · rw [k2 75 (by decide) (by decide), g3 75 (by decide) (by decide) (by decide)]; exact hx
  by_cases w5 : w = nI 5
  · subst w5
    obtain ⟨A1, J1, g1, g2, g3, g4⟩ := c_measured (Lx := Lx) (J := J) hX hv
    have hM1 : M0 (A1 57) n c ws ou := by rw [g3 57 (by decide) (by decide) (by decide)]; exact hM
    refine ⟨nI (fG c n (kap c) 0), mk Lx F A1 J1, mk Lx F A1 J1, ?_, ?_, F, A1, J1, rfl, ?_, hI.frA (fun q h1 h2 h3 h4 h5 => g3 q h1 h2 h3)⟩
    · simp (disch := omega) only [CX6_rule, SX6_rule, G0, G22, O0, leN, a24, w0, w1, w2, w3, w4, g1, g2.2.1 0 (Nat.zero_le _), Option.bind_some, Option.bind_none, if_true, if_false, zr0, zr1, one11, one01, one0, one1, Option.toList_some, Option.toList_none, List.cons_append, List.nil_append, Nat.reduceEqDiff, Nat.reduceAdd, not_false_eq_true, not_true_eq_false, and_true, true_and, and_false, false_and, or_true, true_or, or_false, false_or, and_self, or_self, Bool.false_eq_true]
    · simp (disch := omega) only [CX7_rule, SX7_rule, O56, w0, w1, w2, w3, w4, c_flatOfAll hM1 hv, Option.bind_some, Option.bind_none, if_true, if_false, zr0, zr1, one11, one01, one0, one1, Option.toList_some, Option.toList_none, List.cons_append, List.nil_append, Nat.reduceEqDiff, Nat.reduceAdd, not_false_eq_true, not_true_eq_false, and_true, true_and, and_false, false_and, or_true, true_or, or_false, false_or, and_self, or_self, Bool.false_eq_true]
    · rw [g3 75 (by decide) (by decide) (by decide)]; exact hx
  refine ⟨(-1), mk Lx F A J, mk Lx F A J, ?_, ?_, F, A, J, rfl, hx, hI⟩
  · simp (disch := omega) only [CX6_rule, SX6_rule, w0, w1, w2, w3, w4, w5, Option.bind_some, Option.bind_none, if_true, if_false, zr0, zr1, one11, one01, one0, one1, Option.toList_some, Option.toList_none, List.cons_append, List.nil_append, Nat.reduceEqDiff, Nat.reduceAdd, not_false_eq_true, not_true_eq_false, and_true, true_and, and_false, false_and, or_true, true_or, or_false, false_or, and_self, or_self, Bool.false_eq_true]
  · simp (disch := omega) only [CX7_rule, SX7_rule, w0, w1, w2, w3, w4, w5, Option.bind_some, Option.bind_none, if_true, if_false, zr0, zr1, one11, one01, one0, one1, Option.toList_some, Option.toList_none, List.cons_append, List.nil_append, Nat.reduceEqDiff, Nat.reduceAdd, not_false_eq_true, not_true_eq_false, and_true, true_and, and_false, false_and, or_true, true_or, or_false, false_or, and_self, or_self, Bool.false_eq_true]
theorem op_wish (h : Iv Lx xs σ) (a w : Int32) : okI Lx xs mX6_wish mX7_wish [.int a, .int w] σ := by
  obtain ⟨F, A, J, rfl, hx, hI⟩ := h
  obtain ⟨hT, hP, ⟨hI0, hI1⟩, hR, ⟨hS0, hS1, hS2, hS3⟩, hf, hto⟩ := id hI
  obtain ⟨n, c, ws, ou, hv, hX, hM⟩ := id hP
  have hn6 := hv.2.1
  rcases iin a (nif c n) (by omega) with ⟨j, hj, rfl⟩ | g
  · have q1 : ¬ nI j < 0 ∧ nI j < nI (nif c n) := ⟨nI_pos (by omega), nI_lt hj (by omega)⟩
    rcases iin w 2 (by decide) with ⟨k, hk, rfl⟩ | g'
    · have q2 : ¬ nI k < 0 ∧ nI k ≤ nI 1 := (in_le (by decide)).mpr ⟨nI_pos (by omega), nI_lt hk (by decide)⟩
      have q3 : ¬ nI 1 < nI k := Int32.not_lt.mpr q2.2
      by_cases k0 : k = 0
      · subst k0
        obtain ⟨A2, J2, k1, k2, k3, k4, k5⟩ := c_findMeans (Lx := Lx) (F := F) (J := J) hM hv
        have h57 : A2 57 = A 57 := k4 57 (by decide) (by decide)
        refine ⟨nI (ws j), mk Lx F A J, mk Lx F A2 J2, ?_, ?_, F, A2, J2, rfl, ?_, hI.frA (fun q h1 h2 h3 h4 h5 => k4 q h4 h5)⟩
        · simp (disch := omega) only [CX6_wish, SX6_wish, G0, Op isP_12, Gp isP_12, leN, lep isP_12, ap7 isP_12, c_hasIf isP_12 hX, bI_0, q1, q2.1, q3, nI_e0, eq_self_iff_true, hX.2.2.2.2.2 j hj, Option.bind_some, Option.bind_none, if_true, if_false, zr0, zr1, one11, one01, one0, one1, Option.toList_some, Option.toList_none, List.cons_append, List.nil_append, Nat.reduceEqDiff, Nat.reduceAdd, not_false_eq_true, not_true_eq_false, and_true, true_and, and_false, false_and, or_true, true_or, or_false, false_or, and_self, or_self, Bool.false_eq_true]
        · simp (disch := omega) only [CX7_wish, SX7_wish, G56, O56, leN, a57, c_isIf hM hv, c_isPart, bI_0, q1, q2, nI_e0, eq_self_iff_true, k1, h57, nI_add, hM.2.2.2 j hj, Option.bind_some, Option.bind_none, if_true, if_false, zr0, zr1, one11, one01, one0, one1, Option.toList_some, Option.toList_none, List.cons_append, List.nil_append, Nat.reduceEqDiff, Nat.reduceAdd, not_false_eq_true, not_true_eq_false, and_true, true_and, and_false, false_and, or_true, true_or, or_false, false_or, and_self, or_self, Bool.false_eq_true]
        · rw [k4 75 (by decide) (by decide)]; exact hx
      · have k11 : k = 1 := by omega
        obtain ⟨A1, J1, g1, g2, g3, g4⟩ := c_measured (Lx := Lx) (J := J) hX hv
        have hM1 : M0 (A1 57) n c ws ou := by rw [g3 57 (by decide) (by decide) (by decide)]; exact hM
        obtain ⟨A2, J2, k1, k2, k3, k4, k5⟩ := c_findMeans (Lx := Lx) (F := F) (J := J1) hM1 hv
        refine ⟨zI (gu c n ws j), mk Lx F A1 J1, mk Lx F A2 J2, ?_, ?_, F, A2, J2, rfl, ?_, hI.frA (fun q h1 h2 h3 h4 h5 => by rw [k4 q h4 h5, g3 q h1 h2 h3])⟩
        · simp (disch := omega) only [CX6_wish, SX6_wish, G0, G22, O0, Op isP_12, a26, c_hasIf isP_12 hX, bI_0, q1, q2.1, q3, nI_e0, k0, g1, g2.2.2.2 j hj, c_oneIf, zI_fl, Option.bind_some, Option.bind_none, if_true, if_false, zr0, zr1, one11, one01, one0, one1, Option.toList_some, Option.toList_none, List.cons_append, List.nil_append, Nat.reduceEqDiff, Nat.reduceAdd, not_false_eq_true, not_true_eq_false, and_true, true_and, and_false, false_and, or_true, true_or, or_false, false_or, and_self, or_self, Bool.false_eq_true]
        · simp (disch := omega) only [CX7_wish, SX7_wish, G56, O56, a65, c_isIf hM1 hv, c_isPart, bI_0, q1, q2, nI_e0, k0, k1, k2 j hj, c_flag, zI_fl, Option.bind_some, Option.bind_none, if_true, if_false, zr0, zr1, one11, one01, one0, one1, Option.toList_some, Option.toList_none, List.cons_append, List.nil_append, Nat.reduceEqDiff, Nat.reduceAdd, not_false_eq_true, not_true_eq_false, and_true, true_and, and_false, false_and, or_true, true_or, or_false, false_or, and_self, or_self, Bool.false_eq_true]
        · rw [k4 75 (by decide) (by decide), g3 75 (by decide) (by decide) (by decide)]; exact hx
    · have g2 : ¬ (¬ w < 0 ∧ w ≤ nI 1) := fun z => g' ((in_le (by decide)).mp z)
      refine ⟨(-1), mk Lx F A J, mk Lx F A J, ?_, ?_, F, A, J, rfl, hx, hI⟩
      · by_cases z : w < 0
        · simp (disch := omega) only [CX6_wish, SX6_wish, G0, Op isP_12, c_hasIf isP_12 hX, bI_0, q1, z, Option.bind_some, Option.bind_none, if_true, if_false, zr0, zr1, one11, one01, one0, one1, Option.toList_some, Option.toList_none, List.cons_append, List.nil_append, Nat.reduceEqDiff, Nat.reduceAdd, not_false_eq_true, not_true_eq_false, and_true, true_and, and_false, false_and, or_true, true_or, or_false, false_or, and_self, or_self, Bool.false_eq_true]
        · have z2 : nI 1 < w := Int32.not_le.mp (fun y => g2 ⟨z, y⟩)
          simp (disch := omega) only [CX6_wish, SX6_wish, G0, Op isP_12, c_hasIf isP_12 hX, bI_0, q1, z, z2, Option.bind_some, Option.bind_none, if_true, if_false, zr0, zr1, one11, one01, one0, one1, Option.toList_some, Option.toList_none, List.cons_append, List.nil_append, Nat.reduceEqDiff, Nat.reduceAdd, not_false_eq_true, not_true_eq_false, and_true, true_and, and_false, false_and, or_true, true_or, or_false, false_or, and_self, or_self, Bool.false_eq_true]
      · simp (disch := omega) only [CX7_wish, SX7_wish, O56, c_isIf hM hv, c_isPart, bI_0, q1, g2, Option.bind_some, Option.bind_none, if_true, if_false, zr0, zr1, one11, one01, one0, one1, Option.toList_some, Option.toList_none, List.cons_append, List.nil_append, Nat.reduceEqDiff, Nat.reduceAdd, not_false_eq_true, not_true_eq_false, and_true, true_and, and_false, false_and, or_true, true_or, or_false, false_or, and_self, or_self, Bool.false_eq_true]
  · refine ⟨(-1), mk Lx F A J, mk Lx F A J, ?_, ?_, F, A, J, rfl, hx, hI⟩
    · simp (disch := omega) only [CX6_wish, SX6_wish, G0, Op isP_12, c_hasIf isP_12 hX, bI_0, g, Option.bind_some, Option.bind_none, if_true, if_false, zr0, zr1, one11, one01, one0, one1, Option.toList_some, Option.toList_none, List.cons_append, List.nil_append, Nat.reduceEqDiff, Nat.reduceAdd, not_false_eq_true, not_true_eq_false, and_true, true_and, and_false, false_and, or_true, true_or, or_false, false_or, and_self, or_self, Bool.false_eq_true]
    · simp (disch := omega) only [CX7_wish, SX7_wish, O56, c_isIf hM hv, bI_0, g, Option.bind_some, Option.bind_none, if_true, if_false, zr0, zr1, one11, one01, one0, one1, Option.toList_some, Option.toList_none, List.cons_append, List.nil_append, Nat.reduceEqDiff, Nat.reduceAdd, not_false_eq_true, not_true_eq_false, and_true, true_and, and_false, false_and, or_true, true_or, or_false, false_or, and_self, or_self, Bool.false_eq_true]
end OPS10
