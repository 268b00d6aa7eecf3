/-! how often a guard holds -/
def tenG (c : Nat → Nat → Nat) (n g : Nat) : Nat := if g % 2 = 1 then c (ipl c n ((g - 1) / 2)) 2 else 10 - c (ipl c n ((g - 1) / 2)) 2
def odA (c : Nat → Nat → Nat) (n : Nat) : Nat → Nat → Nat → Nat
  | 0, _, a => a
  | k + 1, g, a => if g = 0 then a else odA c n k (par c n g) (a * tenG c n g)
def odB (c : Nat → Nat → Nat) (n : Nat) : Nat → Nat → Nat → Nat
  | 0, _, b => b
  | k + 1, g, b => if g = 0 then b else odB c n k (par c n g) (b * 10)
section ODDS
variable {Lx : Nat} {F A : Nat → Nat → Int32} {J : Nat → Nat → Int64} {n ou : Nat} {c : Nat → Nat → Nat} {ws : Nat → Nat}
theorem tenG_le (hv : PV n c ws ou) {g : Nat} (h0 : 0 < g) (hg : g ≤ 2 * nif c n) : tenG c n g ≤ 10 ∧ c (ipl c n ((g - 1) / 2)) 2 ≤ 10 := by
  obtain ⟨i1, i2, i3⟩ := ipl_spec (c := c) (n := n) (j := (g - 1) / 2) (by omega)
  have ht := (hv.2.2.2.1 _ i1).2.2.1
  rw [if_neg (by omega), if_pos i2] at ht
  unfold tenG
  refine ⟨?_, ht⟩
  split <;> omega
theorem odA_le (hv : PV n c ws ou) {M : Nat} : ∀ k g a, g ≤ 2 * nif c n → a * 10 ^ k ≤ M → odA c n k g a ≤ M
  | 0, g, a, _, h => by rw [odA]; omega
  | k + 1, g, a, hg, h => by
    have hp : 1 ≤ 10 ^ (k + 1) := Nat.one_le_pow _ _ (by decide)
    have h1 : a * 1 ≤ a * 10 ^ (k + 1) := Nat.mul_le_mul_left a hp
    rw [odA]
    by_cases e : g = 0
    · rw [if_pos e]; omega
    · rw [if_neg e]
      have ht := (tenG_le hv (by omega) hg).1
      refine odA_le hv k _ _ (par_lt hv (by omega) hg).2.2.1 ?_
      have h2 : a * tenG c n g * 10 ^ k ≤ a * 10 * 10 ^ k := Nat.mul_le_mul_right _ (Nat.mul_le_mul_left a ht)
      have h3 : a * 10 * 10 ^ k = a * 10 ^ (k + 1) := by rw [Nat.pow_succ, Nat.mul_assoc, Nat.mul_comm 10]
      omega
theorem odB_le {M : Nat} : ∀ k g b, 0 < b → b * 10 ^ k ≤ M → odB c n k g b ≤ M ∧ 0 < odB c n k g b
  | 0, g, b, h0, h => by rw [odB]; omega
  | k + 1, g, b, h0, h => by
    have hp : 1 ≤ 10 ^ (k + 1) := Nat.one_le_pow _ _ (by decide)
    have h1 : b * 1 ≤ b * 10 ^ (k + 1) := Nat.mul_le_mul_left b hp
    rw [odB]
    by_cases e : g = 0
    · rw [if_pos e]; omega
    · rw [if_neg e]
      refine odB_le k _ _ (by omega) ?_
      have h3 : b * 10 * 10 ^ k = b * 10 ^ (k + 1) := by rw [Nat.pow_succ, Nat.mul_assoc, Nat.mul_comm 10]
      omega
theorem l_oddsX (hX : XP F A 12 n c ws ou) (hv : PV n c ws ou) (w : Int32) (l1 : Option Value) : ∀ k s g a b, s + k = 6 → g ≤ 2 * nif c n → 0 < b → a * 10 ^ k ≤ 1000000 → b * 10 ^ k ≤ 1000000 → den mX6_odds 35 [some (.ref 0), l1, some (.int w), some (.long (lN a)), none, some (.long (lN b)), none, some (.int (nI g)), some (.int (nI s))] [] (mk Lx F A J) = some (some (.long (lN (lowT (odA c n k g a) (odB c n k g b) w))), mk Lx F A J) := by
  have hn6 := hv.2.1
  intro k
  induction k with
  | zero =>
    intro s g a b hs hg h0 ha hb
    have hlt : ¬ s < 6 := by omega
    have p := c_part (σ := mk Lx F A J) (a := a) (b := b) (by omega) (by omega) h0 w
    rw [hX6_odds_35, odA, odB]
    simp (disch := omega) only [SX6_odds_0, SX6_odds_1, nI_ltI, hlt, p, Option.bind_some, Option.bind_none, if_true, if_false, zr0, zr1, one11, one01, one0, one1, Option.toList_some, Option.toList_none, List.cons_append, List.nil_append, Nat.reduceEqDiff, Nat.reduceAdd, not_false_eq_true, not_true_eq_false, and_true, true_and, and_false, false_and, or_true, true_or, or_false, false_or, and_self, or_self, Bool.false_eq_true]
  | succ k ih =>
    intro s g a b hs hg h0 ha hb
    have hlt : s < 6 := by omega
    have hp : 1 ≤ 10 ^ (k + 1) := Nat.one_le_pow _ _ (by decide)
    have h1 : a * 1 ≤ a * 10 ^ (k + 1) := Nat.mul_le_mul_left a hp
    have h2 : b * 1 ≤ b * 10 ^ (k + 1) := Nat.mul_le_mul_left b hp
    rw [hX6_odds_35, odA, odB]
    by_cases e : g = 0
    · have p := c_part (σ := mk Lx F A J) (a := a) (b := b) (by omega) (by omega) h0 w
      have e0 : ¬ 0 < g := by omega
      rw [if_pos e, if_pos e]
      simp (disch := omega) only [SX6_odds_0, SX6_odds_1, nI_ltI, hlt, nI_g0, e0, p, Option.bind_some, Option.bind_none, if_true, if_false, zr0, zr1, one11, one01, one0, one1, Option.toList_some, Option.toList_none, List.cons_append, List.nil_append, Nat.reduceEqDiff, Nat.reduceAdd, not_false_eq_true, not_true_eq_false, and_true, true_and, and_false, false_and, or_true, true_or, or_false, false_or, and_self, or_self, Bool.false_eq_true]
    · have e0 : 0 < g := by omega
      have ht := (tenG_le hv e0 hg).1
      have h3 : a * tenG c n g * 10 ^ k ≤ a * 10 * 10 ^ k := Nat.mul_le_mul_right _ (Nat.mul_le_mul_left a ht)
      have h4 : a * 10 * 10 ^ k = a * 10 ^ (k + 1) := by rw [Nat.pow_succ, Nat.mul_assoc, Nat.mul_comm 10]
      have h5 : b * 10 * 10 ^ k = b * 10 ^ (k + 1) := by rw [Nat.pow_succ, Nat.mul_assoc, Nat.mul_comm 10]
      have r := ih (s + 1) (par c n g) (a * tenG c n g) (b * 10) (by omega) (par_lt hv e0 hg).2.2.1 (by omega) (by omega) (by omega)
      have ct := c_tenthsOf (Lx := Lx) (J := J) isP_12 hX hv e0 hg
      have cp := c_parentOf (Lx := Lx) (J := J) isP_12 hX hv hg
      rw [if_neg e] at cp
      rw [← tenG] at ct
      rw [if_neg e, if_neg e]
      have nl : (nI (tenG c n g)).toInt64 = lN (tenG c n g) := nI_l (by omega)
      simp (disch := omega) only [SX6_odds_0, SX6_odds_1, nI_ltI, hlt, nI_g0, e0, G0, Op isP_12, ct, cp, nl, lN_mul, nI_add, r, Option.bind_some, Option.bind_none, if_true, if_false, zr0, zr1, one11, one01, one0, one1, Option.toList_some, Option.toList_none, List.cons_append, List.nil_append, Nat.reduceEqDiff, Nat.reduceAdd, not_false_eq_true, not_true_eq_false, and_true, true_and, and_false, false_and, or_true, true_or, or_false, false_or, and_self, or_self, Bool.false_eq_true]
theorem l_oddsM (hM : M0 (A 57) n c ws ou) (hv : PV n c ws ou) (w : Int32) (l1 : Option Value) : ∀ k g a b (l8 : Option Value), (g + 1) / 2 ≤ k → g ≤ 2 * nif c n → 0 < b → a * 10 ^ k ≤ 1000000 → b * 10 ^ k ≤ 1000000 → den mX7_odds 27 [some (.ref 56), l1, some (.int w), some (.long (lN a)), none, some (.long (lN b)), none, some (.int (nI g)), l8] [] (mk Lx F A J) = some (some (.long (lN (lowT (odA c n k g a) (odB c n k g b) w))), mk Lx F A J) := by
  have hn := hv.1
  have hn6 := hv.2.1
  intro k
  induction k with
  | zero =>
    intro g a b l8 hk hg h0 ha hb
    have e0 : ¬ 0 < g := by omega
    have p := c_low (σ := mk Lx F A J) (a := a) (b := b) (by omega) (by omega) h0 w
    rw [hX7_odds_27, odA, odB]
    simp (disch := omega) only [SX7_odds_0, SX7_odds_1, nI_g0, e0, p, Option.bind_some, Option.bind_none, if_true, if_false, zr0, zr1, one11, one01, one0, one1, Option.toList_some, Option.toList_none, List.cons_append, List.nil_append, Nat.reduceEqDiff, Nat.reduceAdd, not_false_eq_true, not_true_eq_false, and_true, true_and, and_false, false_and, or_true, true_or, or_false, false_or, and_self, or_self, Bool.false_eq_true]
  | succ k ih =>
    intro g a b l8 hk hg h0 ha hb
    have hp : 1 ≤ 10 ^ (k + 1) := Nat.one_le_pow _ _ (by decide)
    have h1 : a * 1 ≤ a * 10 ^ (k + 1) := Nat.mul_le_mul_left a hp
    have h2 : b * 1 ≤ b * 10 ^ (k + 1) := Nat.mul_le_mul_left b hp
    rw [hX7_odds_27, odA, odB]
    by_cases e : g = 0
    · have p := c_low (σ := mk Lx F A J) (a := a) (b := b) (by omega) (by omega) h0 w
      have e0 : ¬ 0 < g := by omega
      rw [if_pos e, if_pos e]
      simp (disch := omega) only [SX7_odds_0, SX7_odds_1, nI_g0, e0, p, Option.bind_some, Option.bind_none, if_true, if_false, zr0, zr1, one11, one01, one0, one1, Option.toList_some, Option.toList_none, List.cons_append, List.nil_append, Nat.reduceEqDiff, Nat.reduceAdd, not_false_eq_true, not_true_eq_false, and_true, true_and, and_false, false_and, or_true, true_or, or_false, false_or, and_self, or_self, Bool.false_eq_true]
    · have e0 : 0 < g := by omega
      obtain ⟨ht, hc⟩ := tenG_le hv e0 hg
      have h3 : a * tenG c n g * 10 ^ k ≤ a * 10 * 10 ^ k := Nat.mul_le_mul_right _ (Nat.mul_le_mul_left a ht)
      have h4 : a * 10 * 10 ^ k = a * 10 ^ (k + 1) := by rw [Nat.pow_succ, Nat.mul_assoc, Nat.mul_comm 10]
      have h5 : b * 10 * 10 ^ k = b * 10 ^ (k + 1) := by rw [Nat.pow_succ, Nat.mul_assoc, Nat.mul_comm 10]
      have hpl := par_lt hv e0 hg
      have r := ih (par c n g) (a * tenG c n g) (b * 10) (some (.int (nI (c (ipl c n ((g - 1) / 2)) 2)))) (by omega) hpl.2.2.1 (by omega) (by omega) (by omega)
      have hj : (g - 1) / 2 < nif c n := by omega
      have cc := c_codeOf (Lx := Lx) (F := F) (J := J) hM hv hj
      have cp := c_parentOfM (Lx := Lx) (F := F) (J := J) hM hv hg
      have g2 := hM.2.2.1 (ipl c n ((g - 1) / 2)) hpl.2.2.2 2 (by omega)
      have hil := hpl.2.2.2
      rw [if_neg e] at cp
      rw [if_neg e, if_neg e]
      have rm : nI g - nI (g / 2) * nI 2 = nI (g % 2) := by
        rw [nI_m, nI_s (by omega)]
        congr 1
        omega
      by_cases ev : g % 2 = 1
      · have te : tenG c n g = c (ipl c n ((g - 1) / 2)) 2 := if_pos ev
        have nl : (nI (c (ipl c n ((g - 1) / 2)) 2)).toInt64 = lN (tenG c n g) := by rw [te]; exact nI_l (by omega)
        simp (disch := omega) only [SX7_odds_0, SX7_odds_1, O56, nI_g0, e0, nI_s, nI_d, two0, cc, c_of, g2, rm, nI_eq, ev, nl, cp, lN_mul, r, Option.bind_some, Option.bind_none, if_true, if_false, zr0, zr1, one11, one01, one0, one1, Option.toList_some, Option.toList_none, List.cons_append, List.nil_append, Nat.reduceEqDiff, Nat.reduceAdd, not_false_eq_true, not_true_eq_false, and_true, true_and, and_false, false_and, or_true, true_or, or_false, false_or, and_self, or_self, Bool.false_eq_true]
      · have te : tenG c n g = 10 - c (ipl c n ((g - 1) / 2)) 2 := if_neg ev
        have nl : (nI (10 - c (ipl c n ((g - 1) / 2)) 2)).toInt64 = lN (tenG c n g) := by rw [te]; exact nI_l (by omega)
        simp (disch := omega) only [SX7_odds_0, SX7_odds_1, O56, nI_g0, e0, nI_s, nI_d, two0, cc, c_of, g2, rm, nI_eq, ev, nl, cp, lN_mul, r, Option.bind_some, Option.bind_none, if_true, if_false, zr0, zr1, one11, one01, one0, one1, Option.toList_some, Option.toList_none, List.cons_append, List.nil_append, Nat.reduceEqDiff, Nat.reduceAdd, not_false_eq_true, not_true_eq_false, and_true, true_and, and_false, false_and, or_true, true_or, or_false, false_or, and_self, or_self, Bool.false_eq_true]
end ODDS
section OPODDS
variable {Lx : Nat} {xs : Nat → Int32} {σ : dS}
theorem op_odds (h : Iv Lx xs σ) (a w : Int32) : okL Lx xs mX6_odds mX7_odds [.int a, .int w] σ := by
  obtain ⟨F, A, J, rfl, hx, hI⟩ := h
  obtain ⟨hT, hP, ⟨hI0, hI1⟩, hR, ⟨hS0, hS1, hS2, hS3⟩, hf, hto⟩ := id hI
  obtain ⟨n, c, ws, ou, hv, hX, hM⟩ := id hP
  have hn6 := hv.2.1
  rcases iin a (2 * nif c n + 1) (by omega) with ⟨g, hg, rfl⟩ | g
  · have q1 : ¬ nI g < 0 ∧ nI g < nI (2 * nif c n + 1) := ⟨nI_pos (by omega), nI_lt hg (by omega)⟩
    by_cases g' : ¬ w < 0 ∧ w ≤ nI 1
    · have q3 : ¬ nI 1 < w := Int32.not_lt.mpr g'.2
      have e1 := l_oddsX (Lx := Lx) (J := J) hX hv w (some (.int (nI g))) 6 0 g 1 1 (by omega) (by omega) (by decide) (by decide) (by decide)
      have e2 := l_oddsM (Lx := Lx) (F := F) (J := J) hM hv w (some (.int (nI g))) 6 g 1 1 none (by omega) (by omega) (by decide) (by decide) (by decide)
      refine ⟨lN (lowT (odA c n 6 g 1) (odB c n 6 g 1) w), mk Lx F A J, mk Lx F A J, ?_, ?_, F, A, J, rfl, hx, hI⟩
      · simp (disch := omega) only [CX6_odds, SX6_odds_0, SX6_odds_1, G0, Op isP_12, c_hasGuard isP_12 hX, bI_0, q1, g'.1, q3, e1, Option.bind_some, Option.bind_none, if_true, if_false, zr0, zr1, one11, one01, one0, one1, Option.toList_some, Option.toList_none, List.cons_append, List.nil_append, Nat.reduceEqDiff, Nat.reduceAdd, not_false_eq_true, not_true_eq_false, and_true, true_and, and_false, false_and, or_true, true_or, or_false, false_or, and_self, or_self, Bool.false_eq_true]
      · simp (disch := omega) only [CX7_odds, SX7_odds_0, SX7_odds_1, O56, c_isGuard hM hv, c_isPart, bI_0, q1, g', e2, Option.bind_some, Option.bind_none, if_true, if_false, zr0, zr1, one11, one01, one0, one1, Option.toList_some, Option.toList_none, List.cons_append, List.nil_append, Nat.reduceEqDiff, Nat.reduceAdd, not_false_eq_true, not_true_eq_false, and_true, true_and, and_false, false_and, or_true, true_or, or_false, false_or, and_self, or_self, Bool.false_eq_true]
    · refine ⟨(-1), mk Lx F A J, mk Lx F A J, ?_, ?_, F, A, J, rfl, hx, hI⟩
      · by_cases z : w < 0
        · simp (disch := omega) only [CX6_odds, SX6_odds_0, SX6_odds_1, G0, Op isP_12, c_hasGuard isP_12 hX, bI_0, q1, z, Option.bind_some, Option.bind_none, if_true, if_false, zr0, zr1, one11, one01, one0, one1, Option.toList_some, Option.toList_none, List.cons_append, List.nil_append, Nat.reduceEqDiff, Nat.reduceAdd, not_false_eq_true, not_true_eq_false, and_true, true_and, and_false, false_and, or_true, true_or, or_false, false_or, and_self, or_self, Bool.false_eq_true]
        · have z2 : nI 1 < w := Int32.not_le.mp (fun y => g' ⟨z, y⟩)
          simp (disch := omega) only [CX6_odds, SX6_odds_0, SX6_odds_1, G0, Op isP_12, c_hasGuard isP_12 hX, bI_0, q1, z, z2, Option.bind_some, Option.bind_none, if_true, if_false, zr0, zr1, one11, one01, one0, one1, Option.toList_some, Option.toList_none, List.cons_append, List.nil_append, Nat.reduceEqDiff, Nat.reduceAdd, not_false_eq_true, not_true_eq_false, and_true, true_and, and_false, false_and, or_true, true_or, or_false, false_or, and_self, or_self, Bool.false_eq_true]
      · simp (disch := omega) only [CX7_odds, SX7_odds_0, SX7_odds_1, O56, c_isGuard hM hv, c_isPart, bI_0, q1, g', Option.bind_some, Option.bind_none, if_true, if_false, zr0, zr1, one11, one01, one0, one1, Option.toList_some, Option.toList_none, List.cons_append, List.nil_append, Nat.reduceEqDiff, Nat.reduceAdd, not_false_eq_true, not_true_eq_false, and_true, true_and, and_false, false_and, or_true, true_or, or_false, false_or, and_self, or_self, Bool.false_eq_true]
  · refine ⟨(-1), mk Lx F A J, mk Lx F A J, ?_, ?_, F, A, J, rfl, hx, hI⟩
    · simp (disch := omega) only [CX6_odds, SX6_odds_0, SX6_odds_1, G0, Op isP_12, c_hasGuard isP_12 hX, bI_0, g, Option.bind_some, Option.bind_none, if_true, if_false, zr0, zr1, one11, one01, one0, one1, Option.toList_some, Option.toList_none, List.cons_append, List.nil_append, Nat.reduceEqDiff, Nat.reduceAdd, not_false_eq_true, not_true_eq_false, and_true, true_and, and_false, false_and, or_true, true_or, or_false, false_or, and_self, or_self, Bool.false_eq_true]
    · simp (disch := omega) only [CX7_odds, SX7_odds_0, SX7_odds_1, O56, c_isGuard hM hv, bI_0, g, Option.bind_some, Option.bind_none, if_true, if_false, zr0, zr1, one11, one01, one0, one1, Option.toList_some, Option.toList_none, List.cons_append, List.nil_append, Nat.reduceEqDiff, Nat.reduceAdd, not_false_eq_true, not_true_eq_false, and_true, true_and, and_false, false_and, or_true, true_or, or_false, false_or, and_self, or_self, Bool.false_eq_true]
end OPODDS
