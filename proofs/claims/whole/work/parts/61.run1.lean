/-! a run: what an instruction brings, and how a run starts -/
def cmpv (kd : Nat) (a b : Int32) : Int32 := if kd = 1 then a + b else if kd = 2 then a - b else if kd = 3 then a * b else a / b
theorem div_m1 (a : Int32) : a / (-1) = -a := by
  apply Int32.toInt_inj.mp
  rw [Int32.toInt_div, show (-1 : Int32).toInt = -1 by decide, Int32.toInt_neg, Int.tdiv_neg, Int.tdiv_one]
section RUN1
variable {Lx : Nat} {F A : Nat → Nat → Int32} {J : Nat → Nat → Int64} {P : Nat}
theorem c_computed {kd : Nat} (hk : kd ≤ 5) (a b : Int32) (hb : kd = 4 → ¬ b = 0) (h14 : 1 ≤ kd ∧ kd ≤ 4) (σ : dS) : dcall mX2_computed [.int (nI kd), .int a, .int b] σ = some (some (.int (cmpv kd a b)), σ) := by
  unfold cmpv
  by_cases k1 : kd = 1
  · simp (disch := omega) only [CX2_computed, SX2_computed, nI_eq, k1, Option.bind_some, Option.bind_none, if_true, if_false, zr0, zr1, one11, one01, one0, one1, Option.toList_some, Option.toList_none, List.cons_append, List.nil_append, Nat.reduceEqDiff, Nat.reduceAdd, not_false_eq_true, not_true_eq_false, and_true, true_and, and_false, false_and, or_true, true_or, or_false, false_or, and_self, or_self, Bool.false_eq_true]
  · by_cases k2 : kd = 2
    · simp (disch := omega) only [CX2_computed, SX2_computed, nI_eq, k1, k2, Option.bind_some, Option.bind_none, if_true, if_false, zr0, zr1, one11, one01, one0, one1, Option.toList_some, Option.toList_none, List.cons_append, List.nil_append, Nat.reduceEqDiff, Nat.reduceAdd, not_false_eq_true, not_true_eq_false, and_true, true_and, and_false, false_and, or_true, true_or, or_false, false_or, and_self, or_self, Bool.false_eq_true]
    · by_cases k3 : kd = 3
      · simp (disch := omega) only [CX2_computed, SX2_computed, nI_eq, k1, k2, k3, Option.bind_some, Option.bind_none, if_true, if_false, zr0, zr1, one11, one01, one0, one1, Option.toList_some, Option.toList_none, List.cons_append, List.nil_append, Nat.reduceEqDiff, Nat.reduceAdd, not_false_eq_true, not_true_eq_false, and_true, true_and, and_false, false_and, or_true, true_or, or_false, false_or, and_self, or_self, Bool.false_eq_true]
      · have hb0 := hb (by omega)
        simp (disch := omega) only [CX2_computed, SX2_computed, nI_eq, k1, k2, k3, hb0, Option.bind_some, Option.bind_none, if_true, if_false, zr0, zr1, one11, one01, one0, one1, Option.toList_some, Option.toList_none, List.cons_append, List.nil_append, Nat.reduceEqDiff, Nat.reduceAdd, not_false_eq_true, not_true_eq_false, and_true, true_and, and_false, false_and, or_true, true_or, or_false, false_or, and_self, or_self, Bool.false_eq_true]
theorem c_brought {kd : Nat} (hk : kd ≤ 5) (a b : Int32) (hb : kd = 4 → ¬ b = 0) (h14 : 1 ≤ kd ∧ kd ≤ 4) (σ : dS) : dcall mX7_brought [.ref 56, .int (nI kd), .int a, .int b] σ = some (some (.int (cmpv kd a b)), σ) := by
  unfold cmpv
  by_cases k1 : kd = 1
  · simp (disch := omega) only [CX7_brought, SX7_brought, nI_eq, k1, Option.bind_some, Option.bind_none, if_true, if_false, zr0, zr1, one11, one01, one0, one1, Option.toList_some, Option.toList_none, List.cons_append, List.nil_append, Nat.reduceEqDiff, Nat.reduceAdd, not_false_eq_true, not_true_eq_false, and_true, true_and, and_false, false_and, or_true, true_or, or_false, false_or, and_self, or_self, Bool.false_eq_true]
  · by_cases k2 : kd = 2
    · simp (disch := omega) only [CX7_brought, SX7_brought, nI_eq, k1, k2, Option.bind_some, Option.bind_none, if_true, if_false, zr0, zr1, one11, one01, one0, one1, Option.toList_some, Option.toList_none, List.cons_append, List.nil_append, Nat.reduceEqDiff, Nat.reduceAdd, not_false_eq_true, not_true_eq_false, and_true, true_and, and_false, false_and, or_true, true_or, or_false, false_or, and_self, or_self, Bool.false_eq_true]
    · by_cases k3 : kd = 3
      · simp (disch := omega) only [CX7_brought, SX7_brought, nI_eq, k1, k2, k3, Option.bind_some, Option.bind_none, if_true, if_false, zr0, zr1, one11, one01, one0, one1, Option.toList_some, Option.toList_none, List.cons_append, List.nil_append, Nat.reduceEqDiff, Nat.reduceAdd, not_false_eq_true, not_true_eq_false, and_true, true_and, and_false, false_and, or_true, true_or, or_false, false_or, and_self, or_self, Bool.false_eq_true]
      · have hb0 := hb (by omega)
        by_cases m1 : b = (-1)
        · subst m1
          simp (disch := omega) only [CX7_brought, SX7_brought, nI_eq, k1, k2, k3, div_m1, eq_self_iff_true, Option.bind_some, Option.bind_none, if_true, if_false, zr0, zr1, one11, one01, one0, one1, Option.toList_some, Option.toList_none, List.cons_append, List.nil_append, Nat.reduceEqDiff, Nat.reduceAdd, not_false_eq_true, not_true_eq_false, and_true, true_and, and_false, false_and, or_true, true_or, or_false, false_or, and_self, or_self, Bool.false_eq_true]
        · simp (disch := omega) only [CX7_brought, SX7_brought, nI_eq, k1, k2, k3, m1, hb0, Option.bind_some, Option.bind_none, if_true, if_false, zr0, zr1, one11, one01, one0, one1, Option.toList_some, Option.toList_none, List.cons_append, List.nil_append, Nat.reduceEqDiff, Nat.reduceAdd, not_false_eq_true, not_true_eq_false, and_true, true_and, and_false, false_and, or_true, true_or, or_false, false_or, and_self, or_self, Bool.false_eq_true]
/-- four numbers set -/
def st4 (a b c d : Int32) (f : Nat → Int32) : Nat → Int32 := up (up (up (up f 0 a) 1 b) 2 c) 3 d
theorem c_fillM (hP : isM P) (v : Int32) : dcall mJ7_fill_53178 [.ref (P + 1), .int v] (mk Lx F A J) = some (none, mk Lx F (up A (P + 1) (fun j => if j < 8 then v else A (P + 1) j)) J) := by
  rcases hP with rfl | rfl <;> exact c_fill (by decide) (fun _ _ _ => rfl) (by decide) v
theorem c_begin (hP : isM P) (a b c d : Int32) : dcall mX2_begin [.ref P, .int a, .int b, .int c, .int d] (mk Lx F A J) = some (none, mk Lx F (up A (P + 1) (st4 a b c d (fun j => if j < 8 then nI 0 else A (P + 1) j))) J) := by
  simp (disch := omega) only [CX2_begin, SX2_begin, Gm hP, c_fillM hP, wm1 hP, up_eq, up_up, st4, Option.bind_some, Option.bind_none, if_true, if_false, zr0, zr1, one11, one01, one0, one1, Option.toList_some, Option.toList_none, List.cons_append, List.nil_append, Nat.reduceEqDiff, Nat.reduceAdd, not_false_eq_true, not_true_eq_false, and_true, true_and, and_false, false_and, or_true, true_or, or_false, false_or, and_self, or_self, Bool.false_eq_true]
theorem l_starts (a b c d : Int32) : ∀ k i (A : Nat → Nat → Int32), i + k = 8 → den mX7_starts 3 [some (.ref 56), some (.int a), some (.int b), some (.int c), some (.int d), some (.int (nI i))] [] (mk Lx F A J) = some (none, mk Lx F (up A 66 (st4 a b c d (fun j => if i ≤ j ∧ j < 8 then nI 0 else A 66 j))) J) := by
  intro k
  induction k with
  | zero =>
    intro i A hi
    have hlt : ¬ i < 8 := by omega
    have e : (fun j => if i ≤ j ∧ j < 8 then nI 0 else A 66 j) = A 66 := by
      funext j
      rw [if_neg (by omega)]
    rw [hX7_starts_3, e]
    simp (disch := omega) only [SX7_starts, G56, nI_ltI, hlt, w66, up_eq, up_up, st4, Option.bind_some, Option.bind_none, if_true, if_false, zr0, zr1, one11, one01, one0, one1, Option.toList_some, Option.toList_none, List.cons_append, List.nil_append, Nat.reduceEqDiff, Nat.reduceAdd, not_false_eq_true, not_true_eq_false, and_true, true_and, and_false, false_and, or_true, true_or, or_false, false_or, and_self, or_self, Bool.false_eq_true]
  | succ k ih =>
    intro i A hi
    have hlt : i < 8 := by omega
    have e := ih (i + 1) (up A 66 (up (A 66) i (nI 0))) (by omega)
    have ef : (fun j => if i + 1 ≤ j ∧ j < 8 then nI 0 else up (A 66) i (nI 0) j) = (fun j => if i ≤ j ∧ j < 8 then nI 0 else A 66 j) := by
      funext j
      by_cases z : j = i
      · subst z
        rw [if_neg (by omega), up_eq, if_pos (by omega)]
      · rw [up_ne _ _ z]
        by_cases e2 : i ≤ j ∧ j < 8
        · rw [if_pos (by omega), if_pos e2]
        · rw [if_neg (by omega), if_neg e2]
    rw [up_up, up_eq, ef] at e
    rw [hX7_starts_3]
    simp (disch := omega) only [SX7_starts, G56, nI_ltI, hlt, w66, nI_add, e, Option.bind_some, Option.bind_none, if_true, if_false, zr0, zr1, one11, one01, one0, one1, Option.toList_some, Option.toList_none, List.cons_append, List.nil_append, Nat.reduceEqDiff, Nat.reduceAdd, not_false_eq_true, not_true_eq_false, and_true, true_and, and_false, false_and, or_true, true_or, or_false, false_or, and_self, or_self, Bool.false_eq_true]
theorem c_starts (a b c d : Int32) : dcall mX7_starts [.ref 56, .int a, .int b, .int c, .int d] (mk Lx F A J) = some (none, mk Lx F (up A 66 (st4 a b c d (fun j => if j < 8 then nI 0 else A 66 j))) J) := by
  have e := l_starts (Lx := Lx) (F := F) (J := J) a b c d 8 0 A (by omega)
  simp only [Nat.zero_le, true_and] at e
  simp only [CX7_starts, SX7_starts, e, Option.bind_some, Option.bind_none, if_true, if_false, zr0, zr1, one11, one01, one0, one1, Option.toList_some, Option.toList_none, List.cons_append, List.nil_append, Nat.reduceEqDiff, Nat.reduceAdd, not_false_eq_true, not_true_eq_false, and_true, true_and, and_false, false_and, or_true, true_or, or_false, false_or, and_self, or_self, Bool.false_eq_true]
end RUN1
