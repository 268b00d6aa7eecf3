section RUN4
variable {Lx : Nat} {F A : Nat → Nat → Int32} {J : Nat → Nat → Int64} {n ou : Nat} {c : Nat → Nat → Nat} {ws : Nat → Nat}
theorem c_ifComes (hM : M0 (A 57) n c ws ou) (hv : PV n c ws ou) {i j : Nat} (hi : i < n) (hj : j < 6) (d ch g y : Bool) (hg : A 65 j = zI g) (hy : y = true ↔ 0 < A 66 (c i 1)) : dcall mX7_ifComes [.ref 56, .int (nI i), .int (nI j), .int (zI d), .int (zI ch)] (mk Lx F A J) = some (none, mk Lx (up F 56 (up (up (F 56) 24 (F 56 24 + zI d)) 25 (F 56 25 + (if ch = true then (if g = true then nI 1 else nI 4) else nI 0)))) (up (up A 68 (up (up (A 68) (2 * j + 1) (zI (d && y))) (2 * j + 2) (zI (d && !y)))) 69 (up (A 69) j (zI (ch && g)))) J) := by
  have hn := hv.1
  have hb := hv.b hi
  have g1 := hM.2.2.1 i hi 1 (by omega)
  have h8 : c i 1 < 8 := by omega
  cases y with
  | true =>
    have hp : 0 < A 66 (c i 1) := hy.mp rfl
    cases d <;> cases ch <;> cases g <;> simp (disch := omega) only [CX7_ifComes, SX7_ifComes_0, SX7_ifComes_1, SX7_ifComes_2, G56, O56, P56, leN, c_of, g1, a66, hp, nI_m, nI_add, w68, w69, a65, up_eq, up_ne, up_up, hg, zIt, zIf, narZ0, narZ1, nI_e0, c_flag, Bool.true_and, Bool.false_and, Bool.and_true, Bool.and_false, Bool.not_true, Bool.not_false, Option.bind_some, Option.bind_none, if_true, if_false, zr0, zr1, one11, one01, one0, one1, Option.toList_some, Option.toList_none, List.cons_append, List.nil_append, Nat.reduceEqDiff, Nat.reduceAdd, not_false_eq_true, not_true_eq_false, and_true, true_and, and_false, false_and, or_true, true_or, or_false, false_or, and_self, or_self, Bool.false_eq_true]
  | false =>
    have hp : ¬ 0 < A 66 (c i 1) := fun z => by
      have := hy.mpr z
      cases this
    cases d <;> cases ch <;> cases g <;> simp (disch := omega) only [CX7_ifComes, SX7_ifComes_0, SX7_ifComes_1, SX7_ifComes_2, G56, O56, P56, leN, c_of, g1, a66, hp, nI_m, nI_add, w68, w69, a65, up_eq, up_ne, up_up, hg, zIt, zIf, narZ0, narZ1, nI_e0, c_flag, Bool.true_and, Bool.false_and, Bool.and_true, Bool.and_false, Bool.not_true, Bool.not_false, Option.bind_some, Option.bind_none, if_true, if_false, zr0, zr1, one11, one01, one0, one1, Option.toList_some, Option.toList_none, List.cons_append, List.nil_append, Nat.reduceEqDiff, Nat.reduceAdd, not_false_eq_true, not_true_eq_false, and_true, true_and, and_false, false_and, or_true, true_or, or_false, false_or, and_self, or_self, Bool.false_eq_true]
end RUN4
