/-! lowest terms -/
section GCD
theorem lN_e0 {b : Nat} (hb : b < 2 ^ 62) : lN b = 0 ↔ b = 0 := by
  constructor
  · intro e
    by_cases h : b = 0
    · exact h
    · have h1 : lN 0 < lN b := (pk_lLT (by decide) (by omega)).mpr (by omega)
      rw [e] at h1
      exact absurd h1 (by decide)
  · intro e
    rw [e]
    decide
theorem lg0 {b : Nat} (hb : b < 2 ^ 62) : lg_cmp (lN b) (lN 0) = 0 ↔ b = 0 := by
  constructor
  · intro e
    by_cases h : b = 0
    · exact h
    · have h1 : 0 < lg_cmp (lN b) (lN 0) := (lg_gt _ _).mpr ((pk_lLT (by decide) (by omega)).mpr (by omega))
      rw [e] at h1
      exact absurd h1 (by decide)
  · intro e
    rw [e]
    decide
theorem lN_mod {a b : Nat} (ha : a < 2 ^ 62) (h0 : 0 < b) (hb : b < 2 ^ 62) : lN a - lN a / lN b * lN b = lN (a % b) := by
  rw [pk_lDiv (by omega) h0 (by omega), lN_mul]
  have e : a = a % b + a / b * b := by rw [Nat.mul_comm]; exact (Nat.mod_add_div a b).symm
  conv => lhs; lhs; rw [e]
  rw [← lN_add, Int64.add_sub_cancel]
theorem half {a b f : Nat} (hab : b ≤ a) (h0 : 0 < b) (h : a * b < 2 ^ (f + 1)) : b * (a % b) < 2 ^ f := by
  have hr : a % b < b := Nat.mod_lt a h0
  have hd : 1 ≤ a / b := (Nat.one_le_div_iff h0).mpr hab
  have e := Nat.mod_add_div a b
  have e2 : b * 1 ≤ b * (a / b) := Nat.mul_le_mul_left b hd
  have e3 : (b + a % b) * b ≤ a * b := Nat.mul_le_mul_right b (by omega)
  rw [Nat.add_mul] at e3
  have e4 : a % b * b ≤ b * b := Nat.mul_le_mul_right b (by omega)
  have e5 : a % b * b = b * (a % b) := Nat.mul_comm _ _
  have e6 : 2 ^ (f + 1) = 2 * 2 ^ f := by rw [Nat.pow_succ, Nat.mul_comm]
  omega
theorem l_gc {σ : dS} {l0 l2 : Option Value} : ∀ f a b s (l9 l10 : Option Value), b ≤ a → a * b < 2 ^ f → a < 2 ^ 62 → s + f ≤ 100 → den mX6_greatestCommon 9 [l0, none, l2, none, some (.long (lN a)), none, some (.long (lN b)), none, some (.int (nI s)), l9, l10] [] σ = some (some (.long (lN (Nat.gcd a b))), σ) := by
  obtain ⟨r0, r1, r3, r4, r6, r7, r11, r13, r16, r18, r19, r20, r23, r25, r27, r28, r30, r32, r34, r36, r38, r41, r44, r46⟩ := SX6_greatestCommon
  have done : ∀ a b s (l9 l10 : Option Value), b = 0 → s ≤ 100 → den mX6_greatestCommon 9 [l0, none, l2, none, some (.long (lN a)), none, some (.long (lN b)), none, some (.int (nI s)), l9, l10] [] σ = some (some (.long (lN (Nat.gcd a b))), σ) := by
    intro a b s l9 l10 hb hs
    rw [hX6_greatestCommon_9, r11, r13]
    by_cases z : nI s < nI 100
    · rw [if_pos z, r16, r18, r19, r20, if_pos ((lg0 (by omega)).mpr hb), r44, r46, hb, Nat.gcd_zero_right]
    · rw [if_neg z, r44, r46, hb, Nat.gcd_zero_right]
  intro f
  induction f with
  | zero =>
    intro a b s l9 l10 hab hf ha hs
    have : b = 0 := by
      by_cases z : b = 0
      · exact z
      · have : 1 * 1 ≤ a * b := Nat.mul_le_mul (by omega) (by omega)
        omega
    exact done a b s l9 l10 this (by omega)
  | succ f ih =>
    intro a b s l9 l10 hab hf ha hs
    by_cases z : b = 0
    · exact done a b s l9 l10 z (by omega)
    · have hr : a % b < b := Nat.mod_lt a (by omega)
      have e := ih b (a % b) (s + 1) (some (.long (lN (a % b)))) none (by omega) (half hab (by omega) hf) (by omega) (by omega)
      have hs1 : nI s < nI 100 := nI_lt (by omega) (by decide)
      rw [hX6_greatestCommon_9, r11, r13, if_pos hs1, r16, r18, r19, r20, if_neg (fun y => z ((lg0 (by omega)).mp y)), r23, r25, r27, if_neg (fun y => z ((lN_e0 (by omega)).mp y)), lN_mod ha (by omega) (by omega), r28, r30, r32, r34, r36, r38, nI_add, r41, e, Nat.gcd_comm a b, Nat.gcd_rec b a, Nat.gcd_comm]
theorem c_gc {σ : dS} {a b : Nat} (ha : a < 2 ^ 40) (hb : b < 2 ^ 40) (hb0 : 0 < b) : dcall mX6_greatestCommon [.long (lN a), .long (lN b)] σ = some (some (.long (lN (Nat.gcd a b))), σ) := by
  obtain ⟨r0, r1, r3, r4, r6, r7, r11, r13, r16, r18, r19, r20, r23, r25, r27, r28, r30, r32, r34, r36, r38, r41, r44, r46⟩ := SX6_greatestCommon
  have hr : a % b < b := Nat.mod_lt a hb0
  have h1 : b * (a % b) < 2 ^ 81 := by
    have : b * (a % b) ≤ 2 ^ 40 * 2 ^ 40 := Nat.mul_le_mul (by omega) (by omega)
    omega
  have e := l_gc (σ := σ) (l0 := some (.long (lN a))) (l2 := some (.long (lN b))) 81 b (a % b) (0 + 1) (some (.long (lN (a % b)))) none (by omega) h1 (by omega) (by omega)
  have hs1 : nI 0 < nI 100 := by decide
  rw [CX6_greatestCommon, r0, r1, r3, r4, r6, r7, hX6_greatestCommon_9, r11, r13, if_pos hs1, r16, r18, r19, r20, if_neg (fun y => absurd ((lg0 (by omega)).mp y) (by omega)), r23, r25, r27, if_neg (fun y => absurd ((lN_e0 (by omega)).mp y) (by omega)), lN_mod (by omega) hb0 (by omega), r28, r30, r32, r34, r36, r38, nI_add, r41, e, Nat.gcd_comm a b, Nat.gcd_rec b a, Nat.gcd_comm]
/-- a part of a fraction in lowest terms -/
def lowT (a b : Nat) (w : Int32) : Nat := if w = 0 then a / Nat.gcd a b else b / Nat.gcd a b
theorem c_part {σ : dS} {a b : Nat} (ha : a < 2 ^ 40) (hb : b < 2 ^ 40) (hb0 : 0 < b) (w : Int32) : dcall mX6_partOfFraction [.long (lN a), .long (lN b), .int w] σ = some (some (.long (lN (lowT a b w))), σ) := by
  obtain ⟨r0, r1, r2, r5, r7, r9, r10, r11, r14, r16, r17, r18, r20, r23, r24, r26, r27, r30, r31, r33, r34⟩ := SX6_partOfFraction
  have hg : 0 < Nat.gcd a b := Nat.gcd_pos_of_pos_right a hb0
  have hg2 : Nat.gcd a b ≤ b := Nat.gcd_le_right a hb0
  have hc : 0 < lg_cmp (lN (Nat.gcd a b)) (lN 0) := (lg_gt _ _).mpr ((pk_lLT (by decide) (by omega)).mpr (by omega))
  have hz : ¬ lN (Nat.gcd a b) = 0 := fun y => absurd ((lN_e0 (by omega)).mp y) (by omega)
  rw [CX6_partOfFraction, r0, r1, r2, c_gc ha hb hb0]
  simp only [Option.bind_some, Option.toList_some, List.cons_append, List.nil_append]
  rw [r5, r7, r9, r10, r11, if_pos hc, r18, r20]
  unfold lowT
  by_cases e : w = 0
  · rw [if_pos e, if_pos e, r23, r24, r26, if_neg hz, r27, r34, pk_lDiv (by omega) hg (by omega)]
  · rw [if_neg e, if_neg e, r30, r31, r33, if_neg hz, r34, pk_lDiv (by omega) hg (by omega)]
theorem l_low {σ : dS} {o u : Int64} {w : Int32} {g : Nat} {X : Option (Option Value × dS)} (hX : ∀ l7 l9 l10 : Option Value, den mX7_lowest 31 [some (.long o), none, some (.long u), none, some (.int w), some (.long (lN g)), none, l7, none, l9, l10] [] σ = X) : ∀ y x (l9 l10 : Option Value), x < 2 ^ 62 → y < 2 ^ 62 → Nat.gcd x y = g → den mX7_lowest 6 [some (.long o), none, some (.long u), none, some (.int w), some (.long (lN x)), none, some (.long (lN y)), none, l9, l10] [] σ = X := by
  obtain ⟨r0, r1, r3, r4, r8, r9, r10, r13, r15, r17, r18, r20, r22, r24, r26, r28, r31, rest⟩ := SX7_lowest
  intro y
  induction y using Nat.strongRecOn with
  | _ y ih =>
    intro x l9 l10 hx hy hg
    rw [hX7_lowest_6, r8, r9, r10]
    by_cases z : y = 0
    · rw [if_pos ((lg0 hy).mpr z)]
      rw [z, Nat.gcd_zero_right] at hg
      rw [hg]
      exact hX _ _ _
    · have hr : x % y < y := Nat.mod_lt x (by omega)
      rw [if_neg (fun q => z ((lg0 hy).mp q)), r13, r15, r17, if_neg (fun q => z ((lN_e0 hy).mp q)), lN_mod hx (by omega) hy, r18, r20, r22, r24, r26, r28]
      refine ih (x % y) hr y _ _ hy (by omega) ?_
      rw [← hg, Nat.gcd_comm x y, Nat.gcd_rec y x, Nat.gcd_comm]
theorem c_low {σ : dS} {a b : Nat} (ha : a < 2 ^ 40) (hb : b < 2 ^ 40) (hb0 : 0 < b) (w : Int32) : dcall mX7_lowest [.long (lN a), .long (lN b), .int w] σ = some (some (.long (lN (lowT a b w))), σ) := by
  obtain ⟨r0, r1, r3, r4, r8, r9, r10, r13, r15, r17, r18, r20, r22, r24, r26, r28, r31, r33, r36, r37, r39, r40, r43, r44, r46, r47⟩ := SX7_lowest
  have hg : 0 < Nat.gcd a b := Nat.gcd_pos_of_pos_right a hb0
  have hg2 : Nat.gcd a b ≤ b := Nat.gcd_le_right a hb0
  have hz : ¬ lN (Nat.gcd a b) = 0 := fun y => absurd ((lN_e0 (by omega)).mp y) (by omega)
  rw [CX7_lowest, r0, r1, r3, r4]
  refine l_low (g := Nat.gcd a b) (fun l7 l9 l10 => ?_) a b _ _ (by omega) (by omega) (Nat.gcd_comm b a)
  rw [r31, r33]
  unfold lowT
  by_cases e : w = 0
  · rw [if_pos e, if_pos e, r36, r37, r39, if_neg hz, r40, r47, pk_lDiv (by omega) hg (by omega)]
  · rw [if_neg e, if_neg e, r43, r44, r46, if_neg hz, r47, pk_lDiv (by omega) hg (by omega)]
end GCD
section OPMEAN
variable {Lx : Nat} {xs : Nat → Int32} {σ : dS}
theorem op_mean (h : Iv Lx xs σ) (w : Int32) : okL Lx xs mX6_mean mX7_mean [.int w] σ := by
  obtain ⟨F, A, J, rfl, hx, hI⟩ := h
  obtain ⟨hT, hP, ⟨hI0, hI1⟩, hR, ⟨hS0, hS1, hS2, hS3⟩, hf, hto⟩ := id hI
  obtain ⟨n, c, ws, ou, hv, hX, hM⟩ := id hP
  have hn6 := hv.2.1
  have hle := mG_le hv (ws := ws) (g := 0) (by omega)
  by_cases g' : ¬ w < 0 ∧ w ≤ nI 1
  · have q3 : ¬ nI 1 < w := Int32.not_lt.mpr g'.2
    obtain ⟨A1, J1, d1, d2, d3, d4⟩ := c_measured (Lx := Lx) (J := J) hX hv
    have hM1 : M0 (A1 57) n c ws ou := by rw [d3 57 (by decide) (by decide) (by decide)]; exact hM
    obtain ⟨A2, J2, k1, k2, k3, k4, k5⟩ := c_findMeans (Lx := Lx) (F := F) (J := J1) hM1 hv
    have hM2 : M0 (A2 57) n c ws ou := by rw [k4 57 (by decide) (by decide)]; exact hM1
    have mu := c_meansUnder (Lx := Lx) (F := F) (J := J2) hM2 hv (g := 0) (by omega) (fun k h1 h2 h3 => k3 k h1 h2)
    have p1 := c_part (σ := mk Lx F A1 J1) (a := mG c n ws 0) (b := 1000000) (by omega) (by decide) (by decide) w
    have p2 := c_low (σ := mk Lx F A2 J2) (a := mG c n ws 0) (b := 1000000) (by omega) (by decide) (by decide) w
    refine ⟨lN (lowT (mG c n ws 0) 1000000 w), mk Lx F A1 J1, mk Lx F A2 J2, ?_, ?_, F, A2, J2, rfl, ?_, hI.frA (fun q h1 h2 h3 h4 h5 => by rw [k4 q h4 h5, d3 q h1 h2 h3])⟩
    · simp (disch := omega) only [CX6_mean, SX6_mean, G22, O0, g'.1, q3, d1, a25, d2.2.2.1 0 (Nat.zero_le _), p1, Option.bind_some, Option.bind_none, if_true, if_false, zr0, zr1, one11, one01, one0, one1, Option.toList_some, Option.toList_none, List.cons_append, List.nil_append, Nat.reduceEqDiff, Nat.reduceAdd, not_false_eq_true, not_true_eq_false, and_true, true_and, and_false, false_and, or_true, true_or, or_false, false_or, and_self, or_self, Bool.false_eq_true]
    · simp (disch := omega) only [CX7_mean, SX7_mean, O56, c_isPart, bI_0, g', k1, mu, p2, Option.bind_some, Option.bind_none, if_true, if_false, zr0, zr1, one11, one01, one0, one1, Option.toList_some, Option.toList_none, List.cons_append, List.nil_append, Nat.reduceEqDiff, Nat.reduceAdd, not_false_eq_true, not_true_eq_false, and_true, true_and, and_false, false_and, or_true, true_or, or_false, false_or, and_self, or_self, Bool.false_eq_true]
    · rw [k4 75 (by decide) (by decide), d3 75 (by decide) (by decide) (by decide)]; exact hx
  · refine ⟨(-1), mk Lx F A J, mk Lx F A J, ?_, ?_, F, A, J, rfl, hx, hI⟩
    · by_cases z : w < 0
      · simp (disch := omega) only [CX6_mean, SX6_mean, z, Option.bind_some, Option.bind_none, if_true, if_false, zr0, zr1, one11, one01, one0, one1, Option.toList_some, Option.toList_none, List.cons_append, List.nil_append, Nat.reduceEqDiff, Nat.reduceAdd, not_false_eq_true, not_true_eq_false, and_true, true_and, and_false, false_and, or_true, true_or, or_false, false_or, and_self, or_self, Bool.false_eq_true]
      · have z2 : nI 1 < w := Int32.not_le.mp (fun y => g' ⟨z, y⟩)
        simp (disch := omega) only [CX6_mean, SX6_mean, z, z2, Option.bind_some, Option.bind_none, if_true, if_false, zr0, zr1, one11, one01, one0, one1, Option.toList_some, Option.toList_none, List.cons_append, List.nil_append, Nat.reduceEqDiff, Nat.reduceAdd, not_false_eq_true, not_true_eq_false, and_true, true_and, and_false, false_and, or_true, true_or, or_false, false_or, and_self, or_self, Bool.false_eq_true]
    · simp (disch := omega) only [CX7_mean, SX7_mean, c_isPart, bI_0, g', Option.bind_some, Option.bind_none, if_true, if_false, zr0, zr1, one11, one01, one0, one1, Option.toList_some, Option.toList_none, List.cons_append, List.nil_append, Nat.reduceEqDiff, Nat.reduceAdd, not_false_eq_true, not_true_eq_false, and_true, true_and, and_false, false_and, or_true, true_or, or_false, false_or, and_self, or_self, Bool.false_eq_true]
end OPMEAN
