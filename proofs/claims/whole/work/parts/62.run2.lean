section RUN2
variable {Lx : Nat} {F A : Nat → Nat → Int32} {J : Nat → Nat → Int64} {Q n ou : Nat} {c : Nat → Nat → Nat} {ws : Nat → Nat}
/-- instruction i (no if) stops a run -/
def stp (c : Nat → Nat → Nat) (i : Nat) (v : Nat → Int32) : Prop := c i 0 = 4 ∧ v (c i 3) = 0
/-- what it leaves if it doesn't -/
def dov (c : Nat → Nat → Nat) (i : Nat) (v : Nat → Int32) : Nat → Int32 := up v (c i 1) (if c i 0 = 0 then nI (c i 2) else cmpv (c i 0) (v (c i 2)) (v (c i 3)))
theorem c_doOne (hQ : isM Q) (hX : XP F A 12 n c ws ou) (hv : PV n c ws ou) {i : Nat} (hi : i < n) (e5 : ¬ c i 0 = 5) (hs : ¬ stp c i (A (Q + 1))) : dcall mX2_doOne [.ref Q, .ref 12, .int (nI i)] (mk Lx F A J) = some (none, mk Lx (up F Q (up (F Q) 3 (F Q 3 + nI 1))) (up A (Q + 1) (dov c i (A (Q + 1)))) J) := by
  have hn := hv.1
  have hb := hv.b hi
  have ht := (hv.2.2.2.1 i hi).2.2.1
  rw [if_neg e5] at ht
  obtain ⟨x0, x1, x2, x3, x4⟩ := hX.2.2.2.1 i hi
  have hq : Q + 1 ≤ dN := by rcases hQ with rfl | rfl <;> decide
  unfold dov
  by_cases k0 : c i 0 = 0
  · simp (disch := omega) only [CX2_doOne, SX2_doOne_0, SX2_doOne_1, Gp isP_12, Gm hQ, Pm hQ, leN, lep isP_12, hq, ap1 isP_12, ap2 isP_12, ap3 isP_12, x0, x1, x2, nI_e0, k0, wm1 hQ, Option.bind_some, Option.bind_none, if_true, if_false, zr0, zr1, one11, one01, one0, one1, Option.toList_some, Option.toList_none, List.cons_append, List.nil_append, Nat.reduceEqDiff, Nat.reduceAdd, not_false_eq_true, not_true_eq_false, and_true, true_and, and_false, false_and, or_true, true_or, or_false, false_or, and_self, or_self, Bool.false_eq_true]
  · rw [if_neg k0] at ht
    have h2 : c i 2 < 8 := by omega
    have h3 : c i 3 < 8 := by omega
    have cv := c_computed (kd := c i 0) (by omega) (A (Q + 1) (c i 2)) (A (Q + 1) (c i 3)) (fun e z => hs ⟨e, z⟩) (by omega) (mk Lx F A J)
    by_cases k4 : c i 0 = 4
    · have z : ¬ A (Q + 1) (c i 3) = 0 := fun z => hs ⟨k4, z⟩
      rw [k4] at cv x0
      simp (disch := omega) only [CX2_doOne, SX2_doOne_0, SX2_doOne_1, Gp isP_12, Gm hQ, Pm hQ, leN, lep isP_12, hq, ap1 isP_12, ap2 isP_12, ap3 isP_12, ap4 isP_12, x0, x1, x2, x3, nI_e0, nI_eq, k4, z, am1 hQ, wm1 hQ, cv, Option.bind_some, Option.bind_none, if_true, if_false, zr0, zr1, one11, one01, one0, one1, Option.toList_some, Option.toList_none, List.cons_append, List.nil_append, Nat.reduceEqDiff, Nat.reduceAdd, not_false_eq_true, not_true_eq_false, and_true, true_and, and_false, false_and, or_true, true_or, or_false, false_or, and_self, or_self, Bool.false_eq_true]
    · simp (disch := omega) only [CX2_doOne, SX2_doOne_0, SX2_doOne_1, Gp isP_12, Gm hQ, Pm hQ, leN, lep isP_12, hq, ap1 isP_12, ap2 isP_12, ap3 isP_12, ap4 isP_12, x0, x1, x2, x3, nI_e0, nI_eq, k0, k4, am1 hQ, wm1 hQ, cv, Option.bind_some, Option.bind_none, if_true, if_false, zr0, zr1, one11, one01, one0, one1, Option.toList_some, Option.toList_none, List.cons_append, List.nil_append, Nat.reduceEqDiff, Nat.reduceAdd, not_false_eq_true, not_true_eq_false, and_true, true_and, and_false, false_and, or_true, true_or, or_false, false_or, and_self, or_self, Bool.false_eq_true]
theorem c_doOneS (hQ : isM Q) (hX : XP F A 12 n c ws ou) (hv : PV n c ws ou) {i : Nat} (hi : i < n) (hs : stp c i (A (Q + 1))) : dcall mX2_doOne [.ref Q, .ref 12, .int (nI i)] (mk Lx F A J) = some (none, mk Lx (up F Q (up (F Q) 5 (nI i))) A J) := by
  have hn := hv.1
  have hb := hv.b hi
  obtain ⟨k4, z⟩ := hs
  have ht := (hv.2.2.2.1 i hi).2.2.1
  rw [if_neg (by omega), if_neg (by omega)] at ht
  obtain ⟨x0, x1, x2, x3, x4⟩ := hX.2.2.2.1 i hi
  have hq : Q + 1 ≤ dN := by rcases hQ with rfl | rfl <;> decide
  rw [k4] at x0
  simp (disch := omega) only [CX2_doOne, SX2_doOne_0, SX2_doOne_1, Gp isP_12, Gm hQ, Pm hQ, leN, lep isP_12, hq, ap1 isP_12, ap2 isP_12, ap3 isP_12, ap4 isP_12, x0, x1, x2, x3, nI_e0, nI_eq, z, am1 hQ, Option.bind_some, Option.bind_none, if_true, if_false, zr0, zr1, one11, one01, one0, one1, Option.toList_some, Option.toList_none, List.cons_append, List.nil_append, Nat.reduceEqDiff, Nat.reduceAdd, not_false_eq_true, not_true_eq_false, and_true, true_and, and_false, false_and, or_true, true_or, or_false, false_or, and_self, or_self, Bool.false_eq_true]
end RUN2
