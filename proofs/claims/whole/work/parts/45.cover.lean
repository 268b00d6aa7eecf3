section COV
variable {Lx : Nat} {F A : Nat → Nat → Int32} {J : Nat → Nat → Int64} {P n ou : Nat} {c : Nat → Nat → Nat} {ws : Nat → Nat}
/-- one of the guards of s holds -/
def anyG (c : Nat → Nat → Nat) (n w s : Nat) : Bool := anyF (fun g => s.testBit g && hb c n 6 w g) 0 (2 * nif c n + 1)
theorem anyG_and {w s R : Nat} (hs : s < 2 ^ (2 * nif c n + 1)) (hR : ∀ g, g ≤ 2 * nif c n → R.testBit g = hb c n 6 w g) : R &&& s = 0 ↔ anyG c n w s = false := by
  constructor
  · intro e
    rw [Bool.eq_false_iff]
    intro z
    obtain ⟨g, h1, h2, h3⟩ := anyF_iff.mp z
    rw [Bool.and_eq_true] at h3
    have : (R &&& s).testBit g = true := by rw [Nat.testBit_and, hR g (by omega), h3.1, h3.2]; rfl
    rw [e] at this
    simp at this
  · intro e
    apply Nat.eq_of_testBit_eq
    intro g
    rw [Nat.testBit_and, Nat.zero_testBit]
    by_cases hg : g ≤ 2 * nif c n
    · rw [hR g hg]
      cases h1 : hb c n 6 w g
      · rfl
      · cases h2 : s.testBit g
        · rfl
        · have : anyG c n w s = true := anyF_iff.mpr ⟨g, by omega, by omega, by rw [h1, h2]; rfl⟩
          rw [this] at e
          cases e
    · rw [Nat.testBit_lt_two_pow (Nat.lt_of_lt_of_le hs (Nat.pow_le_pow_right (by decide) (by omega))), Bool.and_false]
theorem l_isCovered (hP : isP P) (h : XP F A P n c ws ou) (hv : PV n c ws ou) {g s : Nat} (hg : g ≤ 2 * nif c n) (hs : s < 2 ^ (2 * nif c n + 1)) : ∀ k w (l4 : Option Value), w + k = 2 ^ nif c n → den mX1_isCovered 2 [some (.ref P), some (.int (nI g)), some (.int (nI s)), some (.int (nI w)), l4] [] (mk Lx F A J) = some (some (.int (zI (!anyF (fun w => hb c n 6 w g && !anyG c n w s) w k))), mk Lx F A J) := by
  have hn6 := hv.2.1
  have h64 := two6 hn6
  have hs13 : s < 2 ^ 13 := Nat.lt_of_lt_of_le hs (Nat.pow_le_pow_right (by decide) (by omega))
  intro k
  induction k with
  | zero =>
    intro w l4 hw
    have : ¬ w < 2 ^ nif c n := by omega
    rw [hX1_isCovered_2]
    simp (disch := omega) only [SX1_isCovered, c_howManyWays hP h hv, nI_ltI, this, anyF, Bool.not_false, zIt, Option.bind_some, Option.bind_none, if_true, if_false, zr0, zr1, one11, one01, one0, one1, Option.toList_some, Option.toList_none, List.cons_append, List.nil_append, Nat.reduceEqDiff, Nat.reduceAdd, not_false_eq_true, not_true_eq_false, and_true, true_and, and_false, false_and, or_true, true_or, or_false, false_or, and_self, or_self, Bool.false_eq_true]
  | succ k ih =>
    intro w l4 hw
    have hlt : w < 2 ^ nif c n := by omega
    obtain ⟨R, r1, r2, r3⟩ := c_holding (Lx := Lx) (F := F) (A := A) (J := J) hP h hv (show w < 64 by omega)
    have hR13 : R < 2 ^ 13 := Nat.lt_of_lt_of_le r2 (Nat.pow_le_pow_right (by decide) (by omega))
    have hRs : R &&& s < 2 ^ 31 := Nat.lt_of_le_of_lt Nat.and_le_right (by omega)
    have hz := anyG_and (R := R) hs r3
    have hbg : R.testBit g = hb c n 6 w g := r3 g hg
    rw [hX1_isCovered_2]
    cases e : hb c n 6 w g
    · rw [e] at hbg
      simp (disch := omega) only [SX1_isCovered, c_howManyWays hP h hv, nI_ltI, hlt, r1, bit_eq, hbg, Option.bind_some, Option.bind_none, if_true, if_false, zr0, zr1, one11, one01, one0, one1, Option.toList_some, Option.toList_none, List.cons_append, List.nil_append, Nat.reduceEqDiff, Nat.reduceAdd, not_false_eq_true, not_true_eq_false, and_true, true_and, and_false, false_and, or_true, true_or, or_false, false_or, and_self, or_self, Bool.false_eq_true, nI_add, anyF, e, Bool.false_and, Bool.false_or]
      exact ih (w + 1) _ (by omega)
    · rw [e] at hbg
      cases e3 : anyG c n w s
      · rw [e3] at hz
        simp (disch := omega) only [SX1_isCovered, c_howManyWays hP h hv, nI_ltI, hlt, r1, bit_eq, hbg, fa_and, nI_e0, hz, Option.bind_some, Option.bind_none, if_true, if_false, zr0, zr1, one11, one01, one0, one1, Option.toList_some, Option.toList_none, List.cons_append, List.nil_append, Nat.reduceEqDiff, Nat.reduceAdd, not_false_eq_true, not_true_eq_false, and_true, true_and, and_false, false_and, or_true, true_or, or_false, false_or, and_self, or_self, Bool.false_eq_true, anyF, e, e3, Bool.not_false, Bool.true_and, Bool.true_or, Bool.not_true, zIf]
      · have hz2 : ¬ (R &&& s = 0) := fun y => by
          have := hz.mp y
          rw [e3] at this
          cases this
        simp (disch := omega) only [SX1_isCovered, c_howManyWays hP h hv, nI_ltI, hlt, r1, bit_eq, hbg, fa_and, nI_e0, hz2, Option.bind_some, Option.bind_none, if_true, if_false, zr0, zr1, one11, one01, one0, one1, Option.toList_some, Option.toList_none, List.cons_append, List.nil_append, Nat.reduceEqDiff, Nat.reduceAdd, not_false_eq_true, not_true_eq_false, and_true, true_and, and_false, false_and, or_true, true_or, or_false, false_or, and_self, or_self, Bool.false_eq_true, nI_add, anyF, e, e3, Bool.not_true, Bool.true_and, Bool.false_or]
        exact ih (w + 1) _ (by omega)
theorem c_isCovered (hP : isP P) (h : XP F A P n c ws ou) (hv : PV n c ws ou) {g s : Nat} (hg : g ≤ 2 * nif c n) (hs : s < 2 ^ (2 * nif c n + 1)) : dcall mX1_isCovered [.ref P, .int (nI g), .int (nI s)] (mk Lx F A J) = some (some (.int (zI (!anyF (fun w => hb c n 6 w g && !anyG c n w s) 0 (2 ^ nif c n)))), mk Lx F A J) := by
  simp (disch := omega) only [CX1_isCovered, SX1_isCovered]
  exact l_isCovered hP h hv hg hs (2 ^ nif c n) 0 none (by omega)
theorem l_cover_in (h : M0 (A 57) n c ws ou) (hv : PV n c ws ou) {g s w : Nat} (hw : w < 64) (hs : s < 2 ^ 13) (is : Bool) {X : Option (Option Value × dS)} : ∀ k j (b : Bool), j + k = 2 * nif c n + 1 → den mX7_cover 102 [some (.ref 56), some (.int (nI g)), some (.int (nI s)), some (.int (nI (2 * nif c n + 1))), some (.int (zI is)), some (.int (nI w)), some (.int (zI (b || anyF (fun g => s.testBit g && hb c n 6 w g) j k))), some (.int (nI (2 * nif c n + 1)))] [] (mk Lx F A J) = X → den mX7_cover 57 [some (.ref 56), some (.int (nI g)), some (.int (nI s)), some (.int (nI (2 * nif c n + 1))), some (.int (zI is)), some (.int (nI w)), some (.int (zI b)), some (.int (nI j))] [] (mk Lx F A J) = X := by
  have hn6 := hv.2.1
  intro k
  induction k with
  | zero =>
    intro j b hj hX
    have hj2 : j = 2 * nif c n + 1 := by omega
    subst hj2
    have : ¬ (2 * nif c n + 1 < 2 * nif c n + 1) := by omega
    rw [anyF, Bool.or_false] at hX
    rw [← hX, hX7_cover_57]
    generalize hR : den mX7_cover 102 [some (.ref 56), some (.int (nI g)), some (.int (nI s)), some (.int (nI (2 * nif c n + 1))), some (.int (zI is)), some (.int (nI w)), some (.int (zI b)), some (.int (nI (2 * nif c n + 1)))] [] (mk Lx F A J) = Y
    rw [← hR]
    have e1 := h
    clear hX
    have step : ∀ Z, den mX7_cover 102 [some (.ref 56), some (.int (nI g)), some (.int (nI s)), some (.int (nI (2 * nif c n + 1))), some (.int (zI is)), some (.int (nI w)), some (.int (zI b)), some (.int (nI (2 * nif c n + 1)))] [] (mk Lx F A J) = Z → den mX7_cover 59 [some (.ref 56), some (.int (nI g)), some (.int (nI s)), some (.int (nI (2 * nif c n + 1))), some (.int (zI is)), some (.int (nI w)), some (.int (zI b)), some (.int (nI (2 * nif c n + 1)))] [.int (nI (2 * nif c n + 1))] (mk Lx F A J) = Z := by
      intro Z hZ
      simp (disch := omega) only [SX7_cover_0, SX7_cover_1, nI_ltI, this, Option.bind_some, Option.bind_none, if_true, if_false, zr0, zr1, one11, one01, one0, one1, Option.toList_some, Option.toList_none, List.cons_append, List.nil_append, Nat.reduceEqDiff, Nat.reduceAdd, not_false_eq_true, not_true_eq_false, and_true, true_and, and_false, false_and, or_true, true_or, or_false, false_or, and_self, or_self, Bool.false_eq_true] at hZ ⊢
      exact hZ
    exact step _ rfl
  | succ k ih =>
    intro j b hj hX
    have hlt : j < 2 * nif c n + 1 := by omega
    have hj2 : j ≤ 2 * nif c n := by omega
    rw [hX7_cover_57]
    cases b
    · cases e1 : s.testBit j
      · simp (disch := omega) only [SX7_cover_0, SX7_cover_1, nI_ltI, hlt, zIf, one0, bit_eq, e1, nI_add, Option.bind_some, Option.bind_none, if_true, if_false, zr0, zr1, one11, one01, one0, one1, Option.toList_some, Option.toList_none, List.cons_append, List.nil_append, Nat.reduceEqDiff, Nat.reduceAdd, not_false_eq_true, not_true_eq_false, and_true, true_and, and_false, false_and, or_true, true_or, or_false, false_or, and_self, or_self, Bool.false_eq_true]
        refine ih (j + 1) false (by omega) ?_
        rw [anyF, e1, Bool.false_and, Bool.false_or] at hX
        exact hX
      · cases e2 : hb c n 6 w j
        · simp (disch := omega) only [SX7_cover_0, SX7_cover_1, O56, nI_ltI, hlt, zIf, one0, bit_eq, e1, c_holdsBy h hv hj2 hw, e2, nI_add, Option.bind_some, Option.bind_none, if_true, if_false, zr0, zr1, one11, one01, one0, one1, Option.toList_some, Option.toList_none, List.cons_append, List.nil_append, Nat.reduceEqDiff, Nat.reduceAdd, not_false_eq_true, not_true_eq_false, and_true, true_and, and_false, false_and, or_true, true_or, or_false, false_or, and_self, or_self, Bool.false_eq_true]
          refine ih (j + 1) false (by omega) ?_
          rw [anyF, e1, e2, Bool.and_false, Bool.false_or] at hX
          exact hX
        · simp (disch := omega) only [SX7_cover_0, SX7_cover_1, O56, nI_ltI, hlt, zIf, zIt, one0, one1, bit_eq, e1, c_holdsBy h hv hj2 hw, e2, nI_add, Option.bind_some, Option.bind_none, if_true, if_false, zr0, zr1, one11, one01, one0, one1, Option.toList_some, Option.toList_none, List.cons_append, List.nil_append, Nat.reduceEqDiff, Nat.reduceAdd, not_false_eq_true, not_true_eq_false, and_true, true_and, and_false, false_and, or_true, true_or, or_false, false_or, and_self, or_self, Bool.false_eq_true]
          refine ih (j + 1) true (by omega) ?_
          rw [anyF, e1, e2, Bool.and_true, Bool.true_or, Bool.or_true] at hX
          rw [Bool.true_or]
          exact hX
    · simp (disch := omega) only [SX7_cover_0, SX7_cover_1, nI_ltI, hlt, zIt, one1, nI_add, Option.bind_some, Option.bind_none, if_true, if_false, zr0, zr1, one11, one01, one0, one1, Option.toList_some, Option.toList_none, List.cons_append, List.nil_append, Nat.reduceEqDiff, Nat.reduceAdd, not_false_eq_true, not_true_eq_false, and_true, true_and, and_false, false_and, or_true, true_or, or_false, false_or, and_self, or_self, Bool.false_eq_true]
      refine ih (j + 1) true (by omega) ?_
      rw [Bool.true_or] at hX ⊢
      exact hX
theorem l_cover (h : M0 (A 57) n c ws ou) (hv : PV n c ws ou) {g s : Nat} (hg : g ≤ 2 * nif c n) (hs : s < 2 ^ 13) : ∀ k w (is : Bool) (l6 l7 : Option Value), w + k = 2 ^ nif c n → den mX7_cover 40 [some (.ref 56), some (.int (nI g)), some (.int (nI s)), some (.int (nI (2 * nif c n + 1))), some (.int (zI is)), some (.int (nI w)), l6, l7] [] (mk Lx F A J) = some (some (.int (zI (is && !anyF (fun w => hb c n 6 w g && !anyG c n w s) w k))), mk Lx F A J) := by
  have hn6 := hv.2.1
  have h64 := two6 hn6
  intro k
  induction k with
  | zero =>
    intro w is l6 l7 hw
    have : ¬ w < 2 ^ nif c n := by omega
    rw [hX7_cover_40]
    simp (disch := omega) only [SX7_cover_0, SX7_cover_1, O56, c_ifs h hv, shl1, nI_ltI, this, anyF, Bool.not_false, Bool.and_true, c_flag, zI_fl, Option.bind_some, Option.bind_none, if_true, if_false, zr0, zr1, one11, one01, one0, one1, Option.toList_some, Option.toList_none, List.cons_append, List.nil_append, Nat.reduceEqDiff, Nat.reduceAdd, not_false_eq_true, not_true_eq_false, and_true, true_and, and_false, false_and, or_true, true_or, or_false, false_or, and_self, or_self, Bool.false_eq_true]
  | succ k ih =>
    intro w is l6 l7 hw
    have hlt : w < 2 ^ nif c n := by omega
    have hw64 : w < 64 := by omega
    rw [hX7_cover_40]
    simp (disch := omega) only [SX7_cover_0, SX7_cover_1, O56, c_ifs h hv, shl1, nI_ltI, hlt, Option.bind_some, Option.bind_none, if_true, if_false, zr0, zr1, one11, one01, one0, one1, Option.toList_some, Option.toList_none, List.cons_append, List.nil_append, Nat.reduceEqDiff, Nat.reduceAdd, not_false_eq_true, not_true_eq_false, and_true, true_and, and_false, false_and, or_true, true_or, or_false, false_or, and_self, or_self, Bool.false_eq_true]
    refine l_cover_in (g := g) h hv hw64 hs is (2 * nif c n + 1) 0 false (by omega) ?_
    show den mX7_cover 102 [_, _, _, _, _, _, some (.int (zI (anyG c n w s))), _] [] _ = _
    cases is
    · simp (disch := omega) only [SX7_cover_0, SX7_cover_1, zIf, one0, nI_add, Option.bind_some, Option.bind_none, if_true, if_false, zr0, zr1, one11, one01, one0, one1, Option.toList_some, Option.toList_none, List.cons_append, List.nil_append, Nat.reduceEqDiff, Nat.reduceAdd, not_false_eq_true, not_true_eq_false, and_true, true_and, and_false, false_and, or_true, true_or, or_false, false_or, and_self, or_self, Bool.false_eq_true]
      have := ih (w + 1) false (some (.int (zI (anyG c n w s)))) (some (.int (nI (2 * nif c n + 1)))) (by omega)
      rw [zIf, Bool.false_and] at this
      rw [this, Bool.false_and]
    · cases e3 : anyG c n w s
      · cases e : hb c n 6 w g
        · simp (disch := omega) only [SX7_cover_0, SX7_cover_1, O56, zIf, zIt, one0, one1, c_holdsBy h hv hg hw64, e, nI_add, Option.bind_some, Option.bind_none, if_true, if_false, zr0, zr1, one11, one01, one0, one1, Option.toList_some, Option.toList_none, List.cons_append, List.nil_append, Nat.reduceEqDiff, Nat.reduceAdd, not_false_eq_true, not_true_eq_false, and_true, true_and, and_false, false_and, or_true, true_or, or_false, false_or, and_self, or_self, Bool.false_eq_true]
          have := ih (w + 1) true (some (.int (nI 0))) (some (.int (nI (2 * nif c n + 1)))) (by omega)
          rw [zIt] at this
          rw [this]
          simp [anyF, e]
        · simp (disch := omega) only [SX7_cover_0, SX7_cover_1, O56, zIf, zIt, one0, one1, c_holdsBy h hv hg hw64, e, nI_add, Option.bind_some, Option.bind_none, if_true, if_false, zr0, zr1, one11, one01, one0, one1, Option.toList_some, Option.toList_none, List.cons_append, List.nil_append, Nat.reduceEqDiff, Nat.reduceAdd, not_false_eq_true, not_true_eq_false, and_true, true_and, and_false, false_and, or_true, true_or, or_false, false_or, and_self, or_self, Bool.false_eq_true]
          have := ih (w + 1) false (some (.int (nI 0))) (some (.int (nI (2 * nif c n + 1)))) (by omega)
          rw [zIf] at this
          rw [this]
          simp [anyF, e, e3]
      · simp (disch := omega) only [SX7_cover_0, SX7_cover_1, zIt, one1, nI_add, Option.bind_some, Option.bind_none, if_true, if_false, zr0, zr1, one11, one01, one0, one1, Option.toList_some, Option.toList_none, List.cons_append, List.nil_append, Nat.reduceEqDiff, Nat.reduceAdd, not_false_eq_true, not_true_eq_false, and_true, true_and, and_false, false_and, or_true, true_or, or_false, false_or, and_self, or_self, Bool.false_eq_true]
        have := ih (w + 1) true (some (.int (nI 1))) (some (.int (nI (2 * nif c n + 1)))) (by omega)
        rw [zIt] at this
        rw [this]
        simp [anyF, e3]
end COV
section OPS9
variable {Lx : Nat} {xs : Nat → Int32} {σ : dS}
theorem op_cover (h : Iv Lx xs σ) (a b : Int32) : okI Lx xs mX6_cover mX7_cover [.int a, .int b] σ := by
  obtain ⟨F, A, J, rfl, hx, hI⟩ := h
  obtain ⟨hT, hP, ⟨hI0, hI1⟩, hR, ⟨hS0, hS1, hS2, hS3⟩, hf, hto⟩ := id hI
  obtain ⟨n, c, ws, ou, hv, hX, hM⟩ := id hP
  have hn6 := hv.2.1
  have hp13 : 2 ^ (2 * nif c n + 1) ≤ 2 ^ 13 := Nat.pow_le_pow_right (by decide) (by omega)
  have hp1 : 1 ≤ 2 ^ (2 * nif c n + 1) := Nat.one_le_two_pow
  rcases iin a (2 * nif c n + 1) (by omega) with ⟨g, hg, rfl⟩ | g
  · have q1 : ¬ nI g < 0 ∧ nI g < nI (2 * nif c n + 1) := ⟨nI_pos (by omega), nI_lt hg (by omega)⟩
    have hg2 : g ≤ 2 * nif c n := by omega
    rcases iin b (2 ^ (2 * nif c n + 1)) (by omega) with ⟨s, hs, rfl⟩ | g'
    · have s8 : ¬ nI s < 0 := nI_pos (by omega)
      have s9 : ¬ nI s < 0 ∧ nI s ≤ nI (2 ^ (2 * nif c n + 1)) - nI 1 := (in_n (by omega)).mpr ⟨s8, nI_lt hs (by omega)⟩
      refine ⟨zI (!anyF (fun w => hb c n 6 w g && !anyG c n w s) 0 (2 ^ nif c n)), mk Lx F A J, mk Lx F A J, ?_, ?_, F, A, J, rfl, hx, hI⟩
      · simp (disch := omega) only [CX6_cover, SX6_cover, G0, Op isP_12, c_hasGuard isP_12 hX, bI_0, q1, nI_l0, c_guardCount isP_12 hX, shl1, nI_ltI, hs, c_isCovered isP_12 hX hv hg2 hs, c_oneIf, zI_fl, Option.bind_some, Option.bind_none, if_true, if_false, zr0, zr1, one11, one01, one0, one1, Option.toList_some, Option.toList_none, List.cons_append, List.nil_append, Nat.reduceEqDiff, Nat.reduceAdd, not_false_eq_true, not_true_eq_false, and_true, true_and, and_false, false_and, or_true, true_or, or_false, false_or, and_self, or_self, Bool.false_eq_true]
      · have := l_cover (Lx := Lx) (F := F) (J := J) hM hv (g := g) (s := s) hg2 (by omega) (2 ^ nif c n) 0 true none none (by omega)
        rw [zIt, Bool.true_and] at this
        simp (disch := omega) only [CX7_cover, SX7_cover_0, SX7_cover_1, O56, c_ifs hM hv, nI_m, nI_add, c_isGuard hM hv, bI_0, q1, c_in, w64N, shl1, w64le, ge0n, s9, Option.bind_some, Option.bind_none, if_true, if_false, zr0, zr1, one11, one01, one0, one1, Option.toList_some, Option.toList_none, List.cons_append, List.nil_append, Nat.reduceEqDiff, Nat.reduceAdd, not_false_eq_true, not_true_eq_false, and_true, true_and, and_false, false_and, or_true, true_or, or_false, false_or, and_self, or_self, Bool.false_eq_true]
        exact this
    · refine ⟨(-1), mk Lx F A J, mk Lx F A J, ?_, ?_, F, A, J, rfl, hx, hI⟩
      · by_cases z : b < 0
        · simp (disch := omega) only [CX6_cover, SX6_cover, G0, Op isP_12, c_hasGuard isP_12 hX, bI_0, q1, z, Option.bind_some, Option.bind_none, if_true, if_false, zr0, zr1, one11, one01, one0, one1, Option.toList_some, Option.toList_none, List.cons_append, List.nil_append, Nat.reduceEqDiff, Nat.reduceAdd, not_false_eq_true, not_true_eq_false, and_true, true_and, and_false, false_and, or_true, true_or, or_false, false_or, and_self, or_self, Bool.false_eq_true]
        · have : ¬ b < nI (2 ^ (2 * nif c n + 1)) := fun y => g' ⟨z, y⟩
          simp (disch := omega) only [CX6_cover, SX6_cover, G0, Op isP_12, c_hasGuard isP_12 hX, bI_0, q1, z, c_guardCount isP_12 hX, shl1, this, Option.bind_some, Option.bind_none, if_true, if_false, zr0, zr1, one11, one01, one0, one1, Option.toList_some, Option.toList_none, List.cons_append, List.nil_append, Nat.reduceEqDiff, Nat.reduceAdd, not_false_eq_true, not_true_eq_false, and_true, true_and, and_false, false_and, or_true, true_or, or_false, false_or, and_self, or_self, Bool.false_eq_true]
      · have g3 : ¬ (¬ b < 0 ∧ b ≤ nI (2 ^ (2 * nif c n + 1)) - nI 1) := fun z => g' ((in_n (by omega)).mp z)
        simp (disch := omega) only [CX7_cover, SX7_cover_0, SX7_cover_1, O56, c_ifs hM hv, nI_m, nI_add, c_isGuard hM hv, bI_0, q1, c_in, w64N, shl1, w64le, ge0n, g3, Option.bind_some, Option.bind_none, if_true, if_false, zr0, zr1, one11, one01, one0, one1, Option.toList_some, Option.toList_none, List.cons_append, List.nil_append, Nat.reduceEqDiff, Nat.reduceAdd, not_false_eq_true, not_true_eq_false, and_true, true_and, and_false, false_and, or_true, true_or, or_false, false_or, and_self, or_self, Bool.false_eq_true]
  · refine ⟨(-1), mk Lx F A J, mk Lx F A J, ?_, ?_, F, A, J, rfl, hx, hI⟩
    · simp (disch := omega) only [CX6_cover, SX6_cover, G0, Op isP_12, c_hasGuard isP_12 hX, bI_0, g, Option.bind_some, Option.bind_none, if_true, if_false, zr0, zr1, one11, one01, one0, one1, Option.toList_some, Option.toList_none, List.cons_append, List.nil_append, Nat.reduceEqDiff, Nat.reduceAdd, not_false_eq_true, not_true_eq_false, and_true, true_and, and_false, false_and, or_true, true_or, or_false, false_or, and_self, or_self, Bool.false_eq_true]
    · simp (disch := omega) only [CX7_cover, SX7_cover_0, SX7_cover_1, O56, c_ifs hM hv, nI_m, nI_add, c_isGuard hM hv, bI_0, g, Option.bind_some, Option.bind_none, if_true, if_false, zr0, zr1, one11, one01, one0, one1, Option.toList_some, Option.toList_none, List.cons_append, List.nil_append, Nat.reduceEqDiff, Nat.reduceAdd, not_false_eq_true, not_true_eq_false, and_true, true_and, and_false, false_and, or_true, true_or, or_false, false_or, and_self, or_self, Bool.false_eq_true]
end OPS9
