section RUN3
variable {Lx : Nat} {F A : Nat → Nat → Int32} {J : Nat → Nat → Int64} {n ou : Nat} {c : Nat → Nat → Nat} {ws : Nat → Nat}
theorem c_isDone (hM : M0 (A 57) n c ws ou) (hv : PV n c ws ou) {i : Nat} (hi : i < n) (e5 : ¬ c i 0 = 5) (hs : ¬ stp c i (A 66)) : dcall mX7_isDone [.ref 56, .int (nI i)] (mk Lx F A J) = some (none, mk Lx (up F 56 (up (F 56) 24 (F 56 24 + nI 1))) (up A 66 (dov c i (A 66))) J) := by
  have hn := hv.1
  have hb := hv.b hi
  have ht := (hv.2.2.2.1 i hi).2.2.1
  rw [if_neg e5] at ht
  have g0 := hM.2.2.1 i hi 0 (by omega)
  have g1 := hM.2.2.1 i hi 1 (by omega)
  have g2 := hM.2.2.1 i hi 2 (by omega)
  have g3 := hM.2.2.1 i hi 3 (by omega)
  rw [Nat.add_zero] at g0
  unfold dov
  by_cases k0 : c i 0 = 0
  · simp (disch := omega) only [CX7_isDone, SX7_isDone_0, SX7_isDone_1, G56, O56, P56, leN, c_of, Nat.add_zero, g0, g1, g2, nI_e0, k0, w66, Option.bind_some, Option.bind_none, if_true, if_false, zr0, zr1, one11, one01, one0, one1, Option.toList_some, Option.toList_none, List.cons_append, List.nil_append, Nat.reduceEqDiff, Nat.reduceAdd, not_false_eq_true, not_true_eq_false, and_true, true_and, and_false, false_and, or_true, true_or, or_false, false_or, and_self, or_self, Bool.false_eq_true]
  · rw [if_neg k0] at ht
    have h2 : c i 2 < 8 := by omega
    have h3 : c i 3 < 8 := by omega
    have cv := c_brought (kd := c i 0) (by omega) (A 66 (c i 2)) (A 66 (c i 3)) (fun e z => hs ⟨e, z⟩) (by omega) (mk Lx F A J)
    by_cases k4 : c i 0 = 4
    · have z : ¬ A 66 (c i 3) = 0 := fun z => hs ⟨k4, z⟩
      rw [k4] at cv g0
      simp (disch := omega) only [CX7_isDone, SX7_isDone_0, SX7_isDone_1, G56, O56, P56, leN, c_of, Nat.add_zero, g0, g1, g2, g3, nI_e0, nI_eq, k4, z, a66, w66, cv, Option.bind_some, Option.bind_none, if_true, if_false, zr0, zr1, one11, one01, one0, one1, Option.toList_some, Option.toList_none, List.cons_append, List.nil_append, Nat.reduceEqDiff, Nat.reduceAdd, not_false_eq_true, not_true_eq_false, and_true, true_and, and_false, false_and, or_true, true_or, or_false, false_or, and_self, or_self, Bool.false_eq_true]
    · simp (disch := omega) only [CX7_isDone, SX7_isDone_0, SX7_isDone_1, G56, O56, P56, leN, c_of, Nat.add_zero, g0, g1, g2, g3, nI_e0, nI_eq, k0, k4, a66, w66, cv, Option.bind_some, Option.bind_none, if_true, if_false, zr0, zr1, one11, one01, one0, one1, Option.toList_some, Option.toList_none, List.cons_append, List.nil_append, Nat.reduceEqDiff, Nat.reduceAdd, not_false_eq_true, not_true_eq_false, and_true, true_and, and_false, false_and, or_true, true_or, or_false, false_or, and_self, or_self, Bool.false_eq_true]
theorem c_isDoneS (hM : M0 (A 57) n c ws ou) (hv : PV n c ws ou) {i : Nat} (hi : i < n) (hs : stp c i (A 66)) : dcall mX7_isDone [.ref 56, .int (nI i)] (mk Lx F A J) = some (none, mk Lx (up F 56 (up (up (F 56) 26 (nI i)) 24 (F 56 24))) A J) := by
  have hn := hv.1
  have hb := hv.b hi
  obtain ⟨k4, z⟩ := hs
  have g0 := hM.2.2.1 i hi 0 (by omega)
  have g3 := hM.2.2.1 i hi 3 (by omega)
  rw [Nat.add_zero, k4] at g0
  have e : ∀ x : Int32, x - nI 1 + nI 1 = x := fun x => Int32.sub_add_cancel x _
  simp (disch := omega) only [CX7_isDone, SX7_isDone_0, SX7_isDone_1, G56, O56, P56, leN, c_of, Nat.add_zero, g0, g3, nI_e0, nI_eq, z, a66, up_eq, up_ne, up_up, e, Option.bind_some, Option.bind_none, if_true, if_false, zr0, zr1, one11, one01, one0, one1, Option.toList_some, Option.toList_none, List.cons_append, List.nil_append, Nat.reduceEqDiff, Nat.reduceAdd, not_false_eq_true, not_true_eq_false, and_true, true_and, and_false, false_and, or_true, true_or, or_false, false_or, and_self, or_self, Bool.false_eq_true]
end RUN3
