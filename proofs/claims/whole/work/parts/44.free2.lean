section FREE2
variable {Lx : Nat} {F A : Nat → Nat → Int32} {J : Nat → Nat → Int64} {P n ou : Nat} {c : Nat → Nat → Nat} {ws : Nat → Nat}
theorem both_iff {H g h : Nat} : H &&& (2 ^ g ||| 2 ^ h) = (2 ^ g ||| 2 ^ h) ↔ (H.testBit g && H.testBit h) = true := by
  constructor
  · intro e
    have h1 : (H &&& (2 ^ g ||| 2 ^ h)).testBit g = (2 ^ g ||| 2 ^ h).testBit g := by rw [e]
    have h2 : (H &&& (2 ^ g ||| 2 ^ h)).testBit h = (2 ^ g ||| 2 ^ h).testBit h := by rw [e]
    simp [Nat.testBit_and, Nat.testBit_or, Nat.testBit_two_pow] at h1 h2
    simp [h1, h2]
  · intro e
    rw [Bool.and_eq_true] at e
    apply Nat.eq_of_testBit_eq
    intro i
    simp only [Nat.testBit_and, Nat.testBit_or, Nat.testBit_two_pow]
    by_cases e1 : g = i
    · subst e1; simp [e.1]
    · by_cases e2 : h = i
      · subst e2; simp [e.2]
      · simp [e1, e2]
theorem two6 {m : Nat} (h : m ≤ 6) : 2 ^ m ≤ 64 := Nat.pow_le_pow_right (by decide) h
theorem l_neverBoth (hP : isP P) (h : XP F A P n c ws ou) (hv : PV n c ws ou) {g g' : Nat} (hg : g ≤ 2 * nif c n) (hg' : g' ≤ 2 * nif c n) : ∀ k w, w + k = 2 ^ nif c n → den mX1_neverBoth 11 [some (.ref P), some (.int (nI g)), some (.int (nI g')), some (.int (nI (2 ^ g ||| 2 ^ g'))), some (.int (nI w))] [] (mk Lx F A J) = some (some (.int (zI (!anyF (fun w => hb c n 6 w g && hb c n 6 w g') w k))), mk Lx F A J) := by
  have hn6 := hv.2.1
  have h64 := two6 hn6
  have hlt31 : 2 ^ g ||| 2 ^ g' < 2 ^ 31 := Nat.or_lt_two_pow (pow2_lt (by omega)) (pow2_lt (by omega))
  intro k
  induction k with
  | zero =>
    intro w hw
    have : ¬ w < 2 ^ nif c n := by omega
    rw [hX1_neverBoth_11]
    simp (disch := omega) only [SX1_neverBoth, c_howManyWays hP h hv, nI_ltI, this, anyF, Bool.not_false, zIt, Option.bind_some, Option.bind_none, if_true, if_false, zr0, zr1, one11, one01, one0, one1, Option.toList_some, Option.toList_none, List.cons_append, List.nil_append, Nat.reduceEqDiff, Nat.reduceAdd, not_false_eq_true, not_true_eq_false, and_true, true_and, and_false, false_and, or_true, true_or, or_false, false_or, and_self, or_self, Bool.false_eq_true]
  | succ k ih =>
    intro w hw
    have hlt : w < 2 ^ nif c n := by omega
    obtain ⟨R, r1, r2, r3⟩ := c_holding (Lx := Lx) (F := F) (A := A) (J := J) hP h hv (show w < 64 by omega)
    have hR : R &&& (2 ^ g ||| 2 ^ g') < 2 ^ 31 := Nat.lt_of_le_of_lt Nat.and_le_right hlt31
    have hiff := both_iff (H := R) (g := g) (h := g')
    rw [r3 g hg, r3 g' hg'] at hiff
    rw [hX1_neverBoth_11]
    by_cases e : (hb c n 6 w g && hb c n 6 w g') = true
    · simp (disch := omega) only [SX1_neverBoth, c_howManyWays hP h hv, nI_ltI, hlt, r1, fa_and, nI_eq, hiff, e, Option.bind_some, Option.bind_none, if_true, if_false, zr0, zr1, one11, one01, one0, one1, Option.toList_some, Option.toList_none, List.cons_append, List.nil_append, Nat.reduceEqDiff, Nat.reduceAdd, not_false_eq_true, not_true_eq_false, and_true, true_and, and_false, false_and, or_true, true_or, or_false, false_or, and_self, or_self, Bool.false_eq_true, anyF, Bool.true_or, Bool.not_true, zIf]
    · simp (disch := omega) only [SX1_neverBoth, c_howManyWays hP h hv, nI_ltI, hlt, r1, fa_and, nI_eq, hiff, e, Option.bind_some, Option.bind_none, if_true, if_false, zr0, zr1, one11, one01, one0, one1, Option.toList_some, Option.toList_none, List.cons_append, List.nil_append, Nat.reduceEqDiff, Nat.reduceAdd, not_false_eq_true, not_true_eq_false, and_true, true_and, and_false, false_and, or_true, true_or, or_false, false_or, and_self, or_self, Bool.false_eq_true, nI_add, anyF]
      rw [ih (w + 1) (by omega)]
      simp [Bool.eq_false_iff.mpr e]
theorem c_neverBoth (hP : isP P) (h : XP F A P n c ws ou) (hv : PV n c ws ou) {g g' : Nat} (hg : g ≤ 2 * nif c n) (hg' : g' ≤ 2 * nif c n) : dcall mX1_neverBoth [.ref P, .int (nI g), .int (nI g')] (mk Lx F A J) = some (some (.int (zI (!anyF (fun w => hb c n 6 w g && hb c n 6 w g') 0 (2 ^ nif c n)))), mk Lx F A J) := by
  have hn6 := hv.2.1
  simp (disch := omega) only [CX1_neverBoth, SX1_neverBoth, shl1, fa_or, Option.bind_some, Option.bind_none, if_true, if_false, zr0, zr1, one11, one01, one0, one1, Option.toList_some, Option.toList_none, List.cons_append, List.nil_append, Nat.reduceEqDiff, Nat.reduceAdd, not_false_eq_true, not_true_eq_false, and_true, true_and, and_false, false_and, or_true, true_or, or_false, false_or, and_self, or_self, Bool.false_eq_true]
  exact l_neverBoth hP h hv hg hg' (2 ^ nif c n) 0 (by omega)
theorem l_apart (h : M0 (A 57) n c ws ou) (hv : PV n c ws ou) {g g' : Nat} (hg : g ≤ 2 * nif c n) (hg' : g' ≤ 2 * nif c n) : ∀ k w (b : Bool), w + k = 2 ^ nif c n → den mX7_apart 23 [some (.ref 56), some (.int (nI g)), some (.int (nI g')), some (.int (zI b)), some (.int (nI w))] [] (mk Lx F A J) = some (some (.int (zI (!(b || anyF (fun w => hb c n 6 w g && hb c n 6 w g') w k)))), mk Lx F A J) := by
  have hn6 := hv.2.1
  have h64 := two6 hn6
  intro k
  induction k with
  | zero =>
    intro w b hw
    have : ¬ w < 2 ^ nif c n := by omega
    rw [hX7_apart_23]
    cases b
    · simp (disch := omega) only [SX7_apart_0, SX7_apart_1, O56, c_ifs h hv, shl1, nI_ltI, this, anyF, zIt, zIf, one0, one1, c_flag, Bool.or_false, Bool.not_false, Option.bind_some, Option.bind_none, if_true, if_false, zr0, zr1, one11, one01, one0, one1, Option.toList_some, Option.toList_none, List.cons_append, List.nil_append, Nat.reduceEqDiff, Nat.reduceAdd, not_false_eq_true, not_true_eq_false, and_true, true_and, and_false, false_and, or_true, true_or, or_false, false_or, and_self, or_self, Bool.false_eq_true]
    · simp (disch := omega) only [SX7_apart_0, SX7_apart_1, O56, c_ifs h hv, shl1, nI_ltI, this, anyF, zIt, zIf, one0, one1, c_flag, Bool.or_false, Bool.not_true, Option.bind_some, Option.bind_none, if_true, if_false, zr0, zr1, one11, one01, one0, one1, Option.toList_some, Option.toList_none, List.cons_append, List.nil_append, Nat.reduceEqDiff, Nat.reduceAdd, not_false_eq_true, not_true_eq_false, and_true, true_and, and_false, false_and, or_true, true_or, or_false, false_or, and_self, or_self, Bool.false_eq_true]
  | succ k ih =>
    intro w b hw
    have hlt : w < 2 ^ nif c n := by omega
    have hw64 : w < 64 := by omega
    rw [hX7_apart_23]
    cases b
    · cases e1 : hb c n 6 w g
      · simp (disch := omega) only [SX7_apart_0, SX7_apart_1, O56, c_ifs h hv, shl1, nI_ltI, hlt, zIt, zIf, one0, one1, c_holdsBy h hv hg hw64, e1, nI_add, Option.bind_some, Option.bind_none, if_true, if_false, zr0, zr1, one11, one01, one0, one1, Option.toList_some, Option.toList_none, List.cons_append, List.nil_append, Nat.reduceEqDiff, Nat.reduceAdd, not_false_eq_true, not_true_eq_false, and_true, true_and, and_false, false_and, or_true, true_or, or_false, false_or, and_self, or_self, Bool.false_eq_true]
        have := ih (w + 1) false (by omega)
        rw [zIf] at this
        rw [this]
        simp [anyF, e1]
      · cases e2 : hb c n 6 w g'
        · simp (disch := omega) only [SX7_apart_0, SX7_apart_1, O56, c_ifs h hv, shl1, nI_ltI, hlt, zIt, zIf, one0, one1, c_holdsBy h hv hg hw64, c_holdsBy h hv hg' hw64, e1, e2, nI_add, Option.bind_some, Option.bind_none, if_true, if_false, zr0, zr1, one11, one01, one0, one1, Option.toList_some, Option.toList_none, List.cons_append, List.nil_append, Nat.reduceEqDiff, Nat.reduceAdd, not_false_eq_true, not_true_eq_false, and_true, true_and, and_false, false_and, or_true, true_or, or_false, false_or, and_self, or_self, Bool.false_eq_true]
          have := ih (w + 1) false (by omega)
          rw [zIf] at this
          rw [this]
          simp [anyF, e1, e2]
        · simp (disch := omega) only [SX7_apart_0, SX7_apart_1, O56, c_ifs h hv, shl1, nI_ltI, hlt, zIt, zIf, one0, one1, c_holdsBy h hv hg hw64, c_holdsBy h hv hg' hw64, e1, e2, nI_add, Option.bind_some, Option.bind_none, if_true, if_false, zr0, zr1, one11, one01, one0, one1, Option.toList_some, Option.toList_none, List.cons_append, List.nil_append, Nat.reduceEqDiff, Nat.reduceAdd, not_false_eq_true, not_true_eq_false, and_true, true_and, and_false, false_and, or_true, true_or, or_false, false_or, and_self, or_self, Bool.false_eq_true]
          have := ih (w + 1) true (by omega)
          rw [zIt] at this
          rw [this]
          simp [anyF, e1, e2]
    · simp (disch := omega) only [SX7_apart_0, SX7_apart_1, O56, c_ifs h hv, shl1, nI_ltI, hlt, zIt, zIf, one0, one1, nI_add, Option.bind_some, Option.bind_none, if_true, if_false, zr0, zr1, one11, one01, one0, one1, Option.toList_some, Option.toList_none, List.cons_append, List.nil_append, Nat.reduceEqDiff, Nat.reduceAdd, not_false_eq_true, not_true_eq_false, and_true, true_and, and_false, false_and, or_true, true_or, or_false, false_or, and_self, or_self, Bool.false_eq_true]
      have := ih (w + 1) true (by omega)
      rw [zIt] at this
      rw [this]
      simp
end FREE2
section OPS8
variable {Lx : Nat} {xs : Nat → Int32} {σ : dS}
theorem op_apart (h : Iv Lx xs σ) (a b : Int32) : okI Lx xs mX6_apart mX7_apart [.int a, .int b] σ := by
  obtain ⟨F, A, J, rfl, hx, hI⟩ := h
  obtain ⟨hT, hP, ⟨hI0, hI1⟩, hR, ⟨hS0, hS1, hS2, hS3⟩, hf, hto⟩ := id hI
  obtain ⟨n, c, ws, ou, hv, hX, hM⟩ := id hP
  have hn6 := hv.2.1
  rcases iin a (2 * nif c n + 1) (by omega) with ⟨g, hg, rfl⟩ | g
  · have q1 : ¬ nI g < 0 ∧ nI g < nI (2 * nif c n + 1) := ⟨nI_pos (by omega), nI_lt hg (by omega)⟩
    have hg2 : g ≤ 2 * nif c n := by omega
    rcases iin b (2 * nif c n + 1) (by omega) with ⟨g', hg', rfl⟩ | g'
    · have q2 : ¬ nI g' < 0 ∧ nI g' < nI (2 * nif c n + 1) := ⟨nI_pos (by omega), nI_lt hg' (by omega)⟩
      have hg2' : g' ≤ 2 * nif c n := by omega
      refine ⟨zI (!anyF (fun w => hb c n 6 w g && hb c n 6 w g') 0 (2 ^ nif c n)), mk Lx F A J, mk Lx F A J, ?_, ?_, F, A, J, rfl, hx, hI⟩
      · simp (disch := omega) only [CX6_apart, SX6_apart, G0, Op isP_12, c_hasGuard isP_12 hX, bI_0, q1, q2, c_neverBoth isP_12 hX hv hg2 hg2', c_oneIf, zI_fl, Option.bind_some, Option.bind_none, if_true, if_false, zr0, zr1, one11, one01, one0, one1, Option.toList_some, Option.toList_none, List.cons_append, List.nil_append, Nat.reduceEqDiff, Nat.reduceAdd, not_false_eq_true, not_true_eq_false, and_true, true_and, and_false, false_and, or_true, true_or, or_false, false_or, and_self, or_self, Bool.false_eq_true]
      · have := l_apart (Lx := Lx) (F := F) (J := J) hM hv hg2 hg2' (2 ^ nif c n) 0 false (by omega)
        rw [zIf, Bool.false_or] at this
        simp (disch := omega) only [CX7_apart, SX7_apart_0, SX7_apart_1, O56, c_isGuard hM hv, bI_0, q1, q2, Option.bind_some, Option.bind_none, if_true, if_false, zr0, zr1, one11, one01, one0, one1, Option.toList_some, Option.toList_none, List.cons_append, List.nil_append, Nat.reduceEqDiff, Nat.reduceAdd, not_false_eq_true, not_true_eq_false, and_true, true_and, and_false, false_and, or_true, true_or, or_false, false_or, and_self, or_self, Bool.false_eq_true]
        exact this
    · refine ⟨(-1), mk Lx F A J, mk Lx F A J, ?_, ?_, F, A, J, rfl, hx, hI⟩
      · simp (disch := omega) only [CX6_apart, SX6_apart, G0, Op isP_12, c_hasGuard isP_12 hX, bI_0, q1, g', Option.bind_some, Option.bind_none, if_true, if_false, zr0, zr1, one11, one01, one0, one1, Option.toList_some, Option.toList_none, List.cons_append, List.nil_append, Nat.reduceEqDiff, Nat.reduceAdd, not_false_eq_true, not_true_eq_false, and_true, true_and, and_false, false_and, or_true, true_or, or_false, false_or, and_self, or_self, Bool.false_eq_true]
      · simp (disch := omega) only [CX7_apart, SX7_apart_0, SX7_apart_1, O56, c_isGuard hM hv, bI_0, q1, g', Option.bind_some, Option.bind_none, if_true, if_false, zr0, zr1, one11, one01, one0, one1, Option.toList_some, Option.toList_none, List.cons_append, List.nil_append, Nat.reduceEqDiff, Nat.reduceAdd, not_false_eq_true, not_true_eq_false, and_true, true_and, and_false, false_and, or_true, true_or, or_false, false_or, and_self, or_self, Bool.false_eq_true]
  · refine ⟨(-1), mk Lx F A J, mk Lx F A J, ?_, ?_, F, A, J, rfl, hx, hI⟩
    · simp (disch := omega) only [CX6_apart, SX6_apart, G0, Op isP_12, c_hasGuard isP_12 hX, bI_0, g, Option.bind_some, Option.bind_none, if_true, if_false, zr0, zr1, one11, one01, one0, one1, Option.toList_some, Option.toList_none, List.cons_append, List.nil_append, Nat.reduceEqDiff, Nat.reduceAdd, not_false_eq_true, not_true_eq_false, and_true, true_and, and_false, false_and, or_true, true_or, or_false, false_or, and_self, or_self, Bool.false_eq_true]
    · simp (disch := omega) only [CX7_apart, SX7_apart_0, SX7_apart_1, O56, c_isGuard hM hv, bI_0, g, Option.bind_some, Option.bind_none, if_true, if_false, zr0, zr1, one11, one01, one0, one1, Option.toList_some, Option.toList_none, List.cons_append, List.nil_append, Nat.reduceEqDiff, Nat.reduceAdd, not_false_eq_true, not_true_eq_false, and_true, true_and, and_false, false_and, or_true, true_or, or_false, false_or, and_self, or_self, Bool.false_eq_true]
end OPS8
