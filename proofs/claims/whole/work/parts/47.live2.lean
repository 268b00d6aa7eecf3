section LIVE2
variable {Lx : Nat} {F A : Nat → Nat → Int32} {J : Nat → Nat → Int64} {P n ou : Nat} {c : Nat → Nat → Nat} {ws : Nat → Nat}
theorem c_liveByWay (hP : isP P) (h : XP F A P n c ws ou) (hv : PV n c ws ou) {H : Nat → Bool} {R : Nat} (hR : R < 2 ^ 13) (hRb : ∀ g, g ≤ 2 * nif c n → R.testBit g = H g) : ∃ f : Nat, dcall mX1_liveByWay [.ref P, .int (nI R)] (mk Lx F A J) = some (some (.int (nI f)), mk Lx F A J) ∧ f < 2 ^ 24 ∧ ∀ j, j < n → f.testBit j = (c j 0 != 5 && lvb c n ou (fun g => R.testBit g) j) := by
  have hn := hv.1
  obtain ⟨f, f1, f2, f3⟩ := l_liveByWay (Lx := Lx) (F := F) (A := A) (J := J) (H := fun g => R.testBit g) hP h hv hR (fun g _ => rfl) n 0 ou none (Nat.le_refl n) (by decide) (by have := hv.2.2.1; omega) (fun j _ => by simp) (fun j h1 h2 => absurd h2 (by omega)) (fun v _ => by rw [Nat.sub_self]; rfl)
  refine ⟨f, ?_, f2, f3⟩
  simp only [CX1_liveByWay, SX1_liveByWay_0, SX1_liveByWay_1, Gp hP, h.1, h.2.2.1, Option.bind_some, Option.bind_none, if_true, if_false, zr0, zr1, one11, one01, one0, one1, Option.toList_some, Option.toList_none, List.cons_append, List.nil_append, Nat.reduceEqDiff, Nat.reduceAdd, not_false_eq_true, not_true_eq_false, and_true, true_and, and_false, false_and, or_true, true_or, or_false, false_or, and_self, or_self, Bool.false_eq_true]
  exact f1
theorem rdF_congH {H H' : Nat → Bool} (hv : PV n c ws ou) (hH : ∀ g, g ≤ 2 * nif c n → H g = H' g) : ∀ k i v, i + k = n → rdF c ou H k i v = rdF c ou H' k i v := by
  intro k
  induction k with
  | zero => intro i v _; rfl
  | succ k ih =>
    intro i v hi
    have hb := hv.b (show i < n by omega)
    rw [rdF, rdF, hH (c i 4) (by omega), ih (i + 1) v (by omega)]
theorem lvb_congH {H H' : Nat → Bool} (hv : PV n c ws ou) (hH : ∀ g, g ≤ 2 * nif c n → H g = H' g) {i : Nat} (hi : i < n) : lvb c n ou H i = lvb c n ou H' i := by
  have hb := hv.b hi
  unfold lvb
  rw [hH (c i 4) (by omega), rdF_congH hv hH (n - (i + 1)) (i + 1) (c i 1) (by omega)]
theorem l_liveOnes (hP : isP P) (h : XP F A P n c ws ou) (hv : PV n c ws ou) : ∀ k w f, w + k = 2 ^ nif c n → f < 2 ^ 24 → ∃ f' : Nat, den mX1_liveOnes 4 [some (.ref P), some (.int (nI f)), some (.int (nI w))] [] (mk Lx F A J) = some (some (.int (nI f')), mk Lx F A J) ∧ f' < 2 ^ 24 ∧ ∀ j, j < n → f'.testBit j = (f.testBit j || (c j 0 != 5 && anyF (fun w => lvb c n ou (hb c n 6 w) j) w k)) := by
  have hn6 := hv.2.1
  have h64 := two6 hn6
  intro k
  induction k with
  | zero =>
    intro w f hw hf
    have : ¬ w < 2 ^ nif c n := by omega
    refine ⟨f, ?_, hf, fun j hj => by simp [anyF]⟩
    rw [hX1_liveOnes_4]
    simp (disch := omega) only [SX1_liveOnes, c_howManyWays hP h hv, nI_ltI, this, Option.bind_some, Option.bind_none, if_true, if_false, zr0, zr1, one11, one01, one0, one1, Option.toList_some, Option.toList_none, List.cons_append, List.nil_append, Nat.reduceEqDiff, Nat.reduceAdd, not_false_eq_true, not_true_eq_false, and_true, true_and, and_false, false_and, or_true, true_or, or_false, false_or, and_self, or_self, Bool.false_eq_true]
  | succ k ih =>
    intro w f hw hf
    have hlt : w < 2 ^ nif c n := by omega
    obtain ⟨R, r1, r2, r3⟩ := c_holding (Lx := Lx) (F := F) (A := A) (J := J) hP h hv (show w < 64 by omega)
    have hR13 : R < 2 ^ 13 := Nat.lt_of_lt_of_le r2 (Nat.pow_le_pow_right (by decide) (by omega))
    obtain ⟨g, g1, g2, g3⟩ := c_liveByWay (Lx := Lx) (F := F) (A := A) (J := J) hP h hv hR13 (fun _ _ => rfl)
    obtain ⟨f', p1, p2, p3⟩ := ih (w + 1) (f ||| g) (by omega) (Nat.or_lt_two_pow hf g2)
    refine ⟨f', ?_, p2, fun j hj => ?_⟩
    · rw [hX1_liveOnes_4]
      simp (disch := omega) only [SX1_liveOnes, c_howManyWays hP h hv, nI_ltI, hlt, r1, g1, fa_or, nI_add, Option.bind_some, Option.bind_none, if_true, if_false, zr0, zr1, one11, one01, one0, one1, Option.toList_some, Option.toList_none, List.cons_append, List.nil_append, Nat.reduceEqDiff, Nat.reduceAdd, not_false_eq_true, not_true_eq_false, and_true, true_and, and_false, false_and, or_true, true_or, or_false, false_or, and_self, or_self, Bool.false_eq_true]
      exact p1
    · rw [p3 j hj, Nat.testBit_or, g3 j hj, lvb_congH hv r3 hj, anyF]
      cases f.testBit j <;> cases (c j 0 != 5) <;> simp
theorem c_liveOnes (hP : isP P) (h : XP F A P n c ws ou) (hv : PV n c ws ou) : ∃ f : Nat, dcall mX1_liveOnes [.ref P] (mk Lx F A J) = some (some (.int (nI f)), mk Lx F A J) ∧ f < 2 ^ 24 ∧ ∀ j, j < n → f.testBit j = (c j 0 != 5 && anyF (fun w => lvb c n ou (hb c n 6 w) j) 0 (2 ^ nif c n)) := by
  obtain ⟨f, f1, f2, f3⟩ := l_liveOnes (Lx := Lx) (F := F) (A := A) (J := J) hP h hv (2 ^ nif c n) 0 0 (by omega) (by decide)
  refine ⟨f, ?_, f2, fun j hj => by rw [f3 j hj]; simp⟩
  simp only [CX1_liveOnes, SX1_liveOnes]
  exact f1
theorem c_isRead (h : M0 (A 57) n c ws ou) (hv : PV n c ws ou) {i v : Nat} (hi : i < n) (hv8 : v < 8) : dcall mX7_isRead [.ref 56, .int (nI i), .int (nI v)] (mk Lx F A J) = some (some (.int (zI (rds c i v))), mk Lx F A J) := by
  have hn := hv.1
  have hb := hv.b hi
  have h0 : A 57 (5 * i + 0) = nI (c i 0) := h.2.2.1 i hi 0 (by omega)
  have h1 : A 57 (5 * i + 1) = nI (c i 1) := h.2.2.1 i hi 1 (by omega)
  have h2 : A 57 (5 * i + 2) = nI (c i 2) := h.2.2.1 i hi 2 (by omega)
  have h3 : A 57 (5 * i + 3) = nI (c i 3) := h.2.2.1 i hi 3 (by omega)
  unfold rds
  by_cases e5 : c i 0 = 5
  · by_cases e : c i 1 = v
    · subst e
      simp (disch := omega) only [CX7_isRead, SX7_isRead, O56, c_of, h0, h1, nI_eq, e5, beq_self_eq_true, zIt, Option.bind_some, Option.bind_none, if_true, if_false, zr0, zr1, one11, one01, one0, one1, Option.toList_some, Option.toList_none, List.cons_append, List.nil_append, Nat.reduceEqDiff, Nat.reduceAdd, not_false_eq_true, not_true_eq_false, and_true, true_and, and_false, false_and, or_true, true_or, or_false, false_or, and_self, or_self, Bool.false_eq_true]
    · have e' : (c i 1 == v) = false := by simp [e]
      simp (disch := omega) only [CX7_isRead, SX7_isRead, O56, c_of, h0, h1, nI_eq, e5, e, e', zIf, Option.bind_some, Option.bind_none, if_true, if_false, zr0, zr1, one11, one01, one0, one1, Option.toList_some, Option.toList_none, List.cons_append, List.nil_append, Nat.reduceEqDiff, Nat.reduceAdd, not_false_eq_true, not_true_eq_false, and_true, true_and, and_false, false_and, or_true, true_or, or_false, false_or, and_self, or_self, Bool.false_eq_true]
  · by_cases e0 : c i 0 = 0
    · simp (disch := omega) only [CX7_isRead, SX7_isRead, O56, c_of, h0, nI_eq, nI_e0, e0, zIf, Option.bind_some, Option.bind_none, if_true, if_false, zr0, zr1, one11, one01, one0, one1, Option.toList_some, Option.toList_none, List.cons_append, List.nil_append, Nat.reduceEqDiff, Nat.reduceAdd, not_false_eq_true, not_true_eq_false, and_true, true_and, and_false, false_and, or_true, true_or, or_false, false_or, and_self, or_self, Bool.false_eq_true]
    · by_cases e : c i 2 = v
      · have e' : (c i 2 == v) = true := by simp [e]
        simp (disch := omega) only [CX7_isRead, SX7_isRead, O56, c_of, h0, h2, nI_eq, nI_e0, e5, e0, e, e', beq_self_eq_true, Bool.true_or, zIt, Option.bind_some, Option.bind_none, if_true, if_false, zr0, zr1, one11, one01, one0, one1, Option.toList_some, Option.toList_none, List.cons_append, List.nil_append, Nat.reduceEqDiff, Nat.reduceAdd, not_false_eq_true, not_true_eq_false, and_true, true_and, and_false, false_and, or_true, true_or, or_false, false_or, and_self, or_self, Bool.false_eq_true]
      · have e' : (c i 2 == v) = false := by simp [e]
        by_cases f : c i 3 = v
        · have f' : (c i 3 == v) = true := by simp [f]
          simp (disch := omega) only [CX7_isRead, SX7_isRead, O56, c_of, h0, h2, h3, nI_eq, nI_e0, e5, e0, e, e', f, f', beq_self_eq_true, Bool.false_or, zIt, Option.bind_some, Option.bind_none, if_true, if_false, zr0, zr1, one11, one01, one0, one1, Option.toList_some, Option.toList_none, List.cons_append, List.nil_append, Nat.reduceEqDiff, Nat.reduceAdd, not_false_eq_true, not_true_eq_false, and_true, true_and, and_false, false_and, or_true, true_or, or_false, false_or, and_self, or_self, Bool.false_eq_true]
        · have f' : (c i 3 == v) = false := by simp [f]
          simp (disch := omega) only [CX7_isRead, SX7_isRead, O56, c_of, h0, h2, h3, nI_eq, nI_e0, e5, e0, e, e', f, f', Bool.false_or, zIf, Option.bind_some, Option.bind_none, if_true, if_false, zr0, zr1, one11, one01, one0, one1, Option.toList_some, Option.toList_none, List.cons_append, List.nil_append, Nat.reduceEqDiff, Nat.reduceAdd, not_false_eq_true, not_true_eq_false, and_true, true_and, and_false, false_and, or_true, true_or, or_false, false_or, and_self, or_self, Bool.false_eq_true]
theorem l_isLiveBy (h : M0 (A 57) n c ws ou) (hv : PV n c ws ou) {i0 v w : Nat} (hv8 : v < 8) (hw : w < 64) : ∀ k i, i + k = n → den mX7_isLiveBy 28 [some (.ref 56), some (.int (nI i0)), some (.int (nI w)), some (.int (nI v)), some (.int (nI i))] [] (mk Lx F A J) = some (some (.int (zI (rdF c ou (hb c n 6 w) k i v))), mk Lx F A J) := by
  have hn := hv.1
  have hou := hv.2.2.1
  intro k
  induction k with
  | zero =>
    intro i hi
    have : ¬ i < n := by omega
    rw [hX7_isLiveBy_28]
    cases e : ou.testBit v
    · simp (disch := omega) only [SX7_isLiveBy_0, SX7_isLiveBy_1, G56, leN, a57, h.1, h.2.1, nI_ltI, this, bit_eq, e, rdF, zIf, Option.bind_some, Option.bind_none, if_true, if_false, zr0, zr1, one11, one01, one0, one1, Option.toList_some, Option.toList_none, List.cons_append, List.nil_append, Nat.reduceEqDiff, Nat.reduceAdd, not_false_eq_true, not_true_eq_false, and_true, true_and, and_false, false_and, or_true, true_or, or_false, false_or, and_self, or_self, Bool.false_eq_true]
    · simp (disch := omega) only [SX7_isLiveBy_0, SX7_isLiveBy_1, G56, leN, a57, h.1, h.2.1, nI_ltI, this, bit_eq, e, rdF, zIt, Option.bind_some, Option.bind_none, if_true, if_false, zr0, zr1, one11, one01, one0, one1, Option.toList_some, Option.toList_none, List.cons_append, List.nil_append, Nat.reduceEqDiff, Nat.reduceAdd, not_false_eq_true, not_true_eq_false, and_true, true_and, and_false, false_and, or_true, true_or, or_false, false_or, and_self, or_self, Bool.false_eq_true]
  | succ k ih =>
    intro i hi
    have hlt : i < n := by omega
    have hb9 := hv.b hlt
    have hg : c i 4 ≤ 2 * nif c n := by omega
    have h0 : A 57 (5 * i + 0) = nI (c i 0) := h.2.2.1 i hlt 0 (by omega)
    have h1 : A 57 (5 * i + 1) = nI (c i 1) := h.2.2.1 i hlt 1 (by omega)
    have h4 : A 57 (5 * i + 4) = nI (c i 4) := h.2.2.1 i hlt 4 (by omega)
    rw [hX7_isLiveBy_28]
    cases hh : hb c n 6 w (c i 4)
    · simp (disch := omega) only [SX7_isLiveBy_0, SX7_isLiveBy_1, G56, O56, leN, a57, h.1, nI_ltI, hlt, c_of, h4, c_holdsBy h hv hg hw, hh, zIf, one0, nI_add, rdF, Option.bind_some, Option.bind_none, if_true, if_false, zr0, zr1, one11, one01, one0, one1, Option.toList_some, Option.toList_none, List.cons_append, List.nil_append, Nat.reduceEqDiff, Nat.reduceAdd, not_false_eq_true, not_true_eq_false, and_true, true_and, and_false, false_and, or_true, true_or, or_false, false_or, and_self, or_self, Bool.false_eq_true]
      exact ih (i + 1) (by omega)
    · cases hr : rds c i v
      · by_cases e5 : c i 0 = 5
        · simp (disch := omega) only [SX7_isLiveBy_0, SX7_isLiveBy_1, G56, O56, leN, a57, h.1, nI_ltI, hlt, c_of, h0, h4, c_holdsBy h hv hg hw, hh, zIt, zIf, one0, one1, c_isRead h hv hlt hv8, hr, nI_eq, e5, nI_add, rdF, Option.bind_some, Option.bind_none, if_true, if_false, zr0, zr1, one11, one01, one0, one1, Option.toList_some, Option.toList_none, List.cons_append, List.nil_append, Nat.reduceEqDiff, Nat.reduceAdd, not_false_eq_true, not_true_eq_false, and_true, true_and, and_false, false_and, or_true, true_or, or_false, false_or, and_self, or_self, Bool.false_eq_true]
          rw [ih (i + 1) (by omega)]
          simp
        · by_cases et : c i 1 = v
          · have e6 : (c i 0 != 5) = true := by simp [e5]
            have e7 : (c i 1 == v) = true := by simp [et]
            simp (disch := omega) only [SX7_isLiveBy_0, SX7_isLiveBy_1, G56, O56, leN, a57, h.1, nI_ltI, hlt, c_of, h0, h1, h4, c_holdsBy h hv hg hw, hh, zIt, zIf, one0, one1, c_isRead h hv hlt hv8, hr, nI_eq, e5, et, e6, e7, rdF, Bool.and_self, Bool.not_true, Bool.false_and, Bool.or_self, beq_self_eq_true, Option.bind_some, Option.bind_none, if_true, if_false, zr0, zr1, one11, one01, one0, one1, Option.toList_some, Option.toList_none, List.cons_append, List.nil_append, Nat.reduceEqDiff, Nat.reduceAdd, not_false_eq_true, not_true_eq_false, and_true, true_and, and_false, false_and, or_true, true_or, or_false, false_or, and_self, or_self, Bool.false_eq_true]
          · have e7 : (c i 1 == v) = false := by simp [et]
            simp (disch := omega) only [SX7_isLiveBy_0, SX7_isLiveBy_1, G56, O56, leN, a57, h.1, nI_ltI, hlt, c_of, h0, h1, h4, c_holdsBy h hv hg hw, hh, zIt, zIf, one0, one1, c_isRead h hv hlt hv8, hr, nI_eq, e5, et, nI_add, rdF, Option.bind_some, Option.bind_none, if_true, if_false, zr0, zr1, one11, one01, one0, one1, Option.toList_some, Option.toList_none, List.cons_append, List.nil_append, Nat.reduceEqDiff, Nat.reduceAdd, not_false_eq_true, not_true_eq_false, and_true, true_and, and_false, false_and, or_true, true_or, or_false, false_or, and_self, or_self, Bool.false_eq_true]
            rw [ih (i + 1) (by omega), e7]
            simp
      · simp (disch := omega) only [SX7_isLiveBy_0, SX7_isLiveBy_1, G56, O56, leN, a57, h.1, nI_ltI, hlt, c_of, h4, c_holdsBy h hv hg hw, hh, zIt, one1, c_isRead h hv hlt hv8, hr, rdF, Bool.true_or, Option.bind_some, Option.bind_none, if_true, if_false, zr0, zr1, one11, one01, one0, one1, Option.toList_some, Option.toList_none, List.cons_append, List.nil_append, Nat.reduceEqDiff, Nat.reduceAdd, not_false_eq_true, not_true_eq_false, and_true, true_and, and_false, false_and, or_true, true_or, or_false, false_or, and_self, or_self, Bool.false_eq_true]
theorem c_isLiveBy (h : M0 (A 57) n c ws ou) (hv : PV n c ws ou) {i w : Nat} (hi : i < n) (hw : w < 64) : dcall mX7_isLiveBy [.ref 56, .int (nI i), .int (nI w)] (mk Lx F A J) = some (some (.int (zI (lvb c n ou (hb c n 6 w) i))), mk Lx F A J) := by
  have hn := hv.1
  have hb9 := hv.b hi
  have hg : c i 4 ≤ 2 * nif c n := by omega
  have h1 : A 57 (5 * i + 1) = nI (c i 1) := h.2.2.1 i hi 1 (by omega)
  have h4 : A 57 (5 * i + 4) = nI (c i 4) := h.2.2.1 i hi 4 (by omega)
  unfold lvb
  cases hh : hb c n 6 w (c i 4)
  · simp (disch := omega) only [CX7_isLiveBy, SX7_isLiveBy_0, SX7_isLiveBy_1, O56, c_of, h4, c_holdsBy h hv hg hw, hh, zIf, one0, Bool.false_and, Option.bind_some, Option.bind_none, if_true, if_false, zr0, zr1, one11, one01, one0, one1, Option.toList_some, Option.toList_none, List.cons_append, List.nil_append, Nat.reduceEqDiff, Nat.reduceAdd, not_false_eq_true, not_true_eq_false, and_true, true_and, and_false, false_and, or_true, true_or, or_false, false_or, and_self, or_self, Bool.false_eq_true]
  · simp (disch := omega) only [CX7_isLiveBy, SX7_isLiveBy_0, SX7_isLiveBy_1, O56, c_of, h1, h4, c_holdsBy h hv hg hw, hh, zIt, one1, nI_add, Bool.true_and, Option.bind_some, Option.bind_none, if_true, if_false, zr0, zr1, one11, one01, one0, one1, Option.toList_some, Option.toList_none, List.cons_append, List.nil_append, Nat.reduceEqDiff, Nat.reduceAdd, not_false_eq_true, not_true_eq_false, and_true, true_and, and_false, false_and, or_true, true_or, or_false, false_or, and_self, or_self, Bool.false_eq_true]
    exact l_isLiveBy h hv (by omega) hw (n - (i + 1)) (i + 1) (by omega)
theorem l_isLive (h : M0 (A 57) n c ws ou) (hv : PV n c ws ou) {i : Nat} (hi : i < n) : ∀ k w (b : Bool), w + k = 2 ^ nif c n → den mX7_isLive 4 [some (.ref 56), some (.int (nI i)), some (.int (zI b)), some (.int (nI w))] [] (mk Lx F A J) = some (some (.int (zI (b || anyF (fun w => lvb c n ou (hb c n 6 w) i) w k))), mk Lx F A J) := by
  have hn6 := hv.2.1
  have h64 := two6 hn6
  intro k
  induction k with
  | zero =>
    intro w b hw
    have : ¬ w < 2 ^ nif c n := by omega
    rw [hX7_isLive_4]
    simp (disch := omega) only [SX7_isLive, O56, c_ifs h hv, shl1, nI_ltI, this, anyF, Bool.or_false, zI_z, Option.bind_some, Option.bind_none, if_true, if_false, zr0, zr1, one11, one01, one0, one1, Option.toList_some, Option.toList_none, List.cons_append, List.nil_append, Nat.reduceEqDiff, Nat.reduceAdd, not_false_eq_true, not_true_eq_false, and_true, true_and, and_false, false_and, or_true, true_or, or_false, false_or, and_self, or_self, Bool.false_eq_true]
  | succ k ih =>
    intro w b hw
    have hlt : w < 2 ^ nif c n := by omega
    have hw64 : w < 64 := by omega
    rw [hX7_isLive_4]
    cases b
    · simp (disch := omega) only [SX7_isLive, O56, c_ifs h hv, shl1, nI_ltI, hlt, zIf, one0, c_isLiveBy h hv hi hw64, nI_add, Option.bind_some, Option.bind_none, if_true, if_false, zr0, zr1, one11, one01, one0, one1, Option.toList_some, Option.toList_none, List.cons_append, List.nil_append, Nat.reduceEqDiff, Nat.reduceAdd, not_false_eq_true, not_true_eq_false, and_true, true_and, and_false, false_and, or_true, true_or, or_false, false_or, and_self, or_self, Bool.false_eq_true]
      rw [ih (w + 1) _ (by omega), anyF, Bool.false_or]
    · simp (disch := omega) only [SX7_isLive, O56, c_ifs h hv, shl1, nI_ltI, hlt, zIt, one1, Bool.true_or, Option.bind_some, Option.bind_none, if_true, if_false, zr0, zr1, one11, one01, one0, one1, Option.toList_some, Option.toList_none, List.cons_append, List.nil_append, Nat.reduceEqDiff, Nat.reduceAdd, not_false_eq_true, not_true_eq_false, and_true, true_and, and_false, false_and, or_true, true_or, or_false, false_or, and_self, or_self, Bool.false_eq_true]
theorem c_isLive (h : M0 (A 57) n c ws ou) (hv : PV n c ws ou) {i : Nat} (hi : i < n) : dcall mX7_isLive [.ref 56, .int (nI i)] (mk Lx F A J) = some (some (.int (zI (anyF (fun w => lvb c n ou (hb c n 6 w) i) 0 (2 ^ nif c n)))), mk Lx F A J) := by
  have := l_isLive (Lx := Lx) (F := F) (J := J) h hv hi (2 ^ nif c n) 0 false (by omega)
  rw [zIf, Bool.false_or] at this
  simp only [CX7_isLive, SX7_isLive]
  exact this
end LIVE2
section OPS10
variable {Lx : Nat} {xs : Nat → Int32} {σ : dS}
theorem op_live (h : Iv Lx xs σ) (a : Int32) : okI Lx xs mX6_live mX7_live [.int a] σ := by
  obtain ⟨F, A, J, rfl, hx, hI⟩ := h
  obtain ⟨hT, hP, ⟨hI0, hI1⟩, hR, ⟨hS0, hS1, hS2, hS3⟩, hf, hto⟩ := id hI
  obtain ⟨n, c, ws, ou, hv, hX, hM⟩ := id hP
  have hn := hv.1
  rcases iin a n (by omega) with ⟨j, hj, rfl⟩ | g
  · have q1 : ¬ nI j < 0 ∧ nI j < nI n := ⟨nI_pos (by omega), nI_lt hj (by omega)⟩
    have hb9 := hv.b hj
    have h0 : A 57 (5 * j + 0) = nI (c j 0) := hM.2.2.1 j hj 0 (by omega)
    have x0 : A 13 j = nI (c j 0) := (hX.2.2.2.1 j hj).1
    by_cases e5 : c j 0 = 5
    · refine ⟨(-1), mk Lx F A J, mk Lx F A J, ?_, ?_, F, A, J, rfl, hx, hI⟩
      · simp (disch := omega) only [CX6_live, SX6_live, G0, Op isP_12, Gp isP_12, leN, c_hasInstruction isP_12 hX hn, bI_0, q1, a13, x0, e5, Option.bind_some, Option.bind_none, if_true, if_false, zr0, zr1, one11, one01, one0, one1, Option.toList_some, Option.toList_none, List.cons_append, List.nil_append, Nat.reduceEqDiff, Nat.reduceAdd, not_false_eq_true, not_true_eq_false, and_true, true_and, and_false, false_and, or_true, true_or, or_false, false_or, and_self, or_self, Bool.false_eq_true]
      · simp (disch := omega) only [CX7_live, SX7_live, O56, c_isCode hM hn, bI_0, q1, c_of, h0, e5, Option.bind_some, Option.bind_none, if_true, if_false, zr0, zr1, one11, one01, one0, one1, Option.toList_some, Option.toList_none, List.cons_append, List.nil_append, Nat.reduceEqDiff, Nat.reduceAdd, not_false_eq_true, not_true_eq_false, and_true, true_and, and_false, false_and, or_true, true_or, or_false, false_or, and_self, or_self, Bool.false_eq_true]
    · have e6 : (c j 0 != 5) = true := by simp [e5]
      obtain ⟨f, f1, f2, f3⟩ := c_liveOnes (Lx := Lx) (F := F) (A := A) (J := J) isP_12 hX hv
      have f4 := f3 j hj
      rw [e6, Bool.true_and] at f4
      have hlz : (nI f >>> (nI j &&& 31)) &&& nI 1 = zI (anyF (fun w => lvb c n ou (hb c n 6 w) j) 0 (2 ^ nif c n)) := by
        rw [bit_at (Nat.lt_of_lt_of_le f2 (by decide)) (by omega), f4]
        cases anyF (fun w => lvb c n ou (hb c n 6 w) j) 0 (2 ^ nif c n) <;> rfl
      refine ⟨zI (anyF (fun w => lvb c n ou (hb c n 6 w) j) 0 (2 ^ nif c n)), mk Lx F A J, mk Lx F A J, ?_, ?_, F, A, J, rfl, hx, hI⟩
      · simp (disch := omega) only [CX6_live, SX6_live, G0, Op isP_12, Gp isP_12, leN, c_hasInstruction isP_12 hX hn, bI_0, q1, a13, x0, nI_eq, e5, f1, hlz, Option.bind_some, Option.bind_none, if_true, if_false, zr0, zr1, one11, one01, one0, one1, Option.toList_some, Option.toList_none, List.cons_append, List.nil_append, Nat.reduceEqDiff, Nat.reduceAdd, not_false_eq_true, not_true_eq_false, and_true, true_and, and_false, false_and, or_true, true_or, or_false, false_or, and_self, or_self, Bool.false_eq_true]
      · simp (disch := omega) only [CX7_live, SX7_live, O56, c_isCode hM hn, bI_0, q1, c_of, h0, nI_eq, e5, c_isLive hM hv hj, c_flag, zI_fl, Option.bind_some, Option.bind_none, if_true, if_false, zr0, zr1, one11, one01, one0, one1, Option.toList_some, Option.toList_none, List.cons_append, List.nil_append, Nat.reduceEqDiff, Nat.reduceAdd, not_false_eq_true, not_true_eq_false, and_true, true_and, and_false, false_and, or_true, true_or, or_false, false_or, and_self, or_self, Bool.false_eq_true]
  · refine ⟨(-1), mk Lx F A J, mk Lx F A J, ?_, ?_, F, A, J, rfl, hx, hI⟩
    · simp (disch := omega) only [CX6_live, SX6_live, G0, Op isP_12, c_hasInstruction isP_12 hX hn, bI_0, g, Option.bind_some, Option.bind_none, if_true, if_false, zr0, zr1, one11, one01, one0, one1, Option.toList_some, Option.toList_none, List.cons_append, List.nil_append, Nat.reduceEqDiff, Nat.reduceAdd, not_false_eq_true, not_true_eq_false, and_true, true_and, and_false, false_and, or_true, true_or, or_false, false_or, and_self, or_self, Bool.false_eq_true]
    · simp (disch := omega) only [CX7_live, SX7_live, O56, c_isCode hM hn, bI_0, g, Option.bind_some, Option.bind_none, if_true, if_false, zr0, zr1, one11, one01, one0, one1, Option.toList_some, Option.toList_none, List.cons_append, List.nil_append, Nat.reduceEqDiff, Nat.reduceAdd, not_false_eq_true, not_true_eq_false, and_true, true_and, and_false, false_and, or_true, true_or, or_false, false_or, and_self, or_self, Bool.false_eq_true]
end OPS10
