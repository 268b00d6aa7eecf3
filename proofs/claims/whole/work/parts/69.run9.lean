section RUN9
variable {Lx : Nat} {F A : Nat → Nat → Int32} {J : Nat → Nat → Int64} {n ou : Nat} {c : Nat → Nat → Nat} {ws : Nat → Nat}
theorem t_ruNo (hM : M0 (A 57) n c ws ou) (hv : PV n c ws ou) {i j : Nat} (hi : i < n) (e5 : ¬ c i 0 = 5) (hst : F 56 26 = (-4)) (d s : Bool) (hd : A 68 (c i 4) = zI d) (hs : 0 < c i 4 → A 69 ((c i 4 - 1) / 2) = zI s) (hs0 : c i 4 = 0 → s = false) (l3 l4 l5 : Option Value) {σ2 : dS} (h0 : d = false → σ2 = mk Lx (up F 56 (up (F 56) 25 (F 56 25 + (if (d || s) = true then nI (if c i 0 = 4 then 4 else 1) else nI 0)))) A J) (h1 : d = true → dcall mX7_isDone [.ref 56, .int (nI i)] (mk Lx (up F 56 (up (F 56) 25 (F 56 25 + (if (d || s) = true then nI (if c i 0 = 4 then 4 else 1) else nI 0)))) A J) = some (none, σ2)) {X : Option (Option Value × dS)} (hXX : den mX7_runs1 31 [some (.ref 56), some (.int (nI j)), some (.int (nI (i + 1))), some (.int (nI (c i 4))), some (.int (zI d)), some (.int (zI (d || s)))] [] σ2 = X) : den mX7_runs1 31 [some (.ref 56), some (.int (nI j)), some (.int (nI i)), l3, l4, l5] [] (mk Lx F A J) = X := by
  have hn := hv.1
  have hn6 := hv.2.1
  have hb := hv.b hi
  have g0 := hM.2.2.1 i hi 0 (by omega)
  have g4 := hM.2.2.1 i hi 4 (by omega)
  rw [Nat.add_zero] at g0
  rw [hX7_runs1_31]
  cases d with
  | true =>
    have h2 := h1 rfl
    simp only [Bool.true_or, zIt, if_true] at h2 hXX hd
    simp (disch := omega) only [SX7_runs1_0, SX7_runs1_1, SX7_runs1_2, G56, O56, P56, leN, a57, hM.1, nI_ltI, hi, hst, c_of, Nat.add_zero, g0, g4, a68, hd, nI_e0, nI_eq, e5, c_costOf, h2, nI_add, hXX, eq_self_iff_true, Option.bind_some, Option.bind_none, if_true, if_false, zr0, zr1, one11, one01, one0, one1, Option.toList_some, Option.toList_none, List.cons_append, List.nil_append, Nat.reduceEqDiff, Nat.reduceAdd, not_false_eq_true, not_true_eq_false, and_true, true_and, and_false, false_and, or_true, true_or, or_false, false_or, and_self, or_self, Bool.false_eq_true]
  | false =>
    have h2 := h0 rfl
    subst h2
    by_cases z : 0 < c i 4
    · have h9 := hs z
      cases s <;> simp only [Bool.false_or, zIt, zIf, if_true, if_false, Bool.false_eq_true] at hXX hd h9 <;> simp (disch := omega) only [SX7_runs1_0, SX7_runs1_1, SX7_runs1_2, G56, O56, P56, leN, a57, hM.1, nI_ltI, hi, hst, c_of, Nat.add_zero, g0, g4, a68, hd, nI_e0, nI_g0, z, nI_s, two0, nI_d, a69, h9, nI_eq, e5, c_costOf, nI_add, hXX, eq_self_iff_true, Option.bind_some, Option.bind_none, if_true, if_false, zr0, zr1, one11, one01, one0, one1, Option.toList_some, Option.toList_none, List.cons_append, List.nil_append, Nat.reduceEqDiff, Nat.reduceAdd, not_false_eq_true, not_true_eq_false, and_true, true_and, and_false, false_and, or_true, true_or, or_false, false_or, and_self, or_self, Bool.false_eq_true]
    · have s0 := hs0 (by omega)
      subst s0
      simp only [Bool.false_or, zIf, if_false, Bool.false_eq_true] at hXX hd
      simp (disch := omega) only [SX7_runs1_0, SX7_runs1_1, SX7_runs1_2, G56, O56, P56, leN, a57, hM.1, nI_ltI, hi, hst, c_of, Nat.add_zero, g0, g4, a68, hd, nI_e0, nI_g0, z, nI_eq, e5, nI_add, hXX, eq_self_iff_true, Option.bind_some, Option.bind_none, if_true, if_false, zr0, zr1, one11, one01, one0, one1, Option.toList_some, Option.toList_none, List.cons_append, List.nil_append, Nat.reduceEqDiff, Nat.reduceAdd, not_false_eq_true, not_true_eq_false, and_true, true_and, and_false, false_and, or_true, true_or, or_false, false_or, and_self, or_self, Bool.false_eq_true]
end RUN9
