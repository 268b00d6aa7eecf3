section MEASR
variable {Lx : Nat} {F A : Nat → Nat → Int32} {J : Nat → Nat → Int64} {P n ou : Nat} {c : Nat → Nat → Nat} {ws : Nat → Nat}
theorem nI_dec (a : Nat) : nI (a + 1) + (-1) = nI a := by
  rw [show (-1 : Int32) = 0 - nI 1 by decide, ← nI_add, Int32.sub_eq_add_neg, Int32.zero_add, Int32.add_assoc, ← Int32.sub_eq_add_neg, Int32.sub_self, Int32.add_zero]
theorem t_meas0 (hP : isP P) (h : XP F A P n c ws ou) (hv : PV n c ws ou) {i : Nat} (hi : i < n) (e5 : ¬ c i 0 = 5) (l4 : Option Value) {X : Option (Option Value × dS)} (hX : den mX0_measure 28 [some (.ref 22), some (.ref P), some (.int (nI (nif c i))), some (.int (nI i + (-1))), some (.int (nI (c i 4)))] [] (mk Lx F (up (up A 23 (up (A 23) i (nI (kap c i)))) 24 (up (A 24) (c i 4) (A 24 (c i 4) + nI (kap c i)))) (up J 25 (up (J 25) (c i 4) (J 25 (c i 4) + (nI (kap c i)).toInt64 * lN 1000000)))) = X) : den mX0_measure 28 [some (.ref 22), some (.ref P), some (.int (nI (nif c (i + 1)))), some (.int (nI i)), l4] [] (mk Lx F A J) = X := by
  have hn := hv.1
  have hb := hv.b hi
  obtain ⟨x0, -, -, -, x4⟩ := h.2.2.2.1 i hi
  have hif : nif c (i + 1) = nif c i := by rw [nif, if_neg e5, Nat.add_zero]
  have qP : ∀ f : Nat → Int32, up A 23 f (P + 1) = A (P + 1) := fun f => up_ne _ _ (by rcases hP with rfl | rfl | rfl | rfl <;> decide)
  rw [hX0_measure_28, hif]
  by_cases e4 : c i 0 = 4
  · have hk : kap c i = 4 := if_pos e4
    rw [hk] at hX
    simp (disch := omega) only [SX0_measure_0, SX0_measure_1, SX0_measure_2, G22, Gp hP, lep hP, leN, ap1 hP, ap5 hP, a23, w23, a24, w24, a25, w25, nI_l0, x0, x4, nI_eq, e4, up_eq, up_ne, hX, Option.bind_some, Option.bind_none, if_true, if_false, zr0, zr1, one11, one01, one0, one1, Option.toList_some, Option.toList_none, List.cons_append, List.nil_append, Nat.reduceEqDiff, Nat.reduceAdd, not_false_eq_true, not_true_eq_false, and_true, true_and, and_false, false_and, or_true, true_or, or_false, false_or, and_self, or_self, Bool.false_eq_true]
  · have hk : kap c i = 1 := if_neg e4
    rw [hk] at hX
    simp (disch := omega) only [SX0_measure_0, SX0_measure_1, SX0_measure_2, G22, Gp hP, lep hP, leN, ap1 hP, ap5 hP, a23, w23, a24, w24, a25, w25, nI_l0, x0, x4, nI_eq, e4, e5, up_eq, up_ne, hX, Option.bind_some, Option.bind_none, if_true, if_false, zr0, zr1, one11, one01, one0, one1, Option.toList_some, Option.toList_none, List.cons_append, List.nil_append, Nat.reduceEqDiff, Nat.reduceAdd, not_false_eq_true, not_true_eq_false, and_true, true_and, and_false, false_and, or_true, true_or, or_false, false_or, and_self, or_self, Bool.false_eq_true]
theorem t_meas5 (hP : isP P) (h : XP F A P n c ws ou) (hv : PV n c ws ou) {i : Nat} (hi : i < n) (e5 : c i 0 = 5) (hf1 : A 24 (2 * nif c i + 1) = nI (fG c n (kap c) (2 * nif c i + 1))) (hf2 : A 24 (2 * nif c i + 2) = nI (fG c n (kap c) (2 * nif c i + 2))) (hm1 : J 25 (2 * nif c i + 1) = lN (mG c n ws (2 * nif c i + 1))) (hm2 : J 25 (2 * nif c i + 2) = lN (mG c n ws (2 * nif c i + 2))) (l4 : Option Value) {X : Option (Option Value × dS)} (hX : den mX0_measure 28 [some (.ref 22), some (.ref P), some (.int (nI (nif c i))), some (.int (nI i + (-1))), some (.int (nI (c i 4)))] [] (mk Lx F (up (up (up A 23 (up (A 23) i (nI (fL c n (kap c) i)))) 26 (up (A 26) (nif c i) (zI (alK c n ws i)))) 24 (up (A 24) (c i 4) (A 24 (c i 4) + nI (fL c n (kap c) i)))) (up J 25 (up (J 25) (c i 4) (J 25 (c i 4) + lN (mK c n ws i))))) = X) : den mX0_measure 28 [some (.ref 22), some (.ref P), some (.int (nI (nif c (i + 1)))), some (.int (nI i)), l4] [] (mk Lx F A J) = X := by
  have hn := hv.1
  have hb := hv.b hi
  obtain ⟨x0, -, -, -, x4⟩ := h.2.2.2.1 i hi
  have hif : nif c (i + 1) = nif c i + 1 := by rw [nif, if_pos e5]
  rw [hX0_measure_28, hif]
  simp (disch := omega) only [SX0_measure_0, SX0_measure_1, SX0_measure_2, G22, O22, Gp hP, lep hP, leN, ap1 hP, ap5 hP, a23, w23, a24, w24, a25, w25, nI_l0, x0, x4, nI_eq, e5, nI_dec, c_measureIf hP h hv hi e5 hf1 hf2 hm1 hm2, up_eq, up_ne, hX, Option.bind_some, Option.bind_none, if_true, if_false, zr0, zr1, one11, one01, one0, one1, Option.toList_some, Option.toList_none, List.cons_append, List.nil_append, Nat.reduceEqDiff, Nat.reduceAdd, not_false_eq_true, not_true_eq_false, and_true, true_and, and_false, false_and, or_true, true_or, or_false, false_or, and_self, or_self, Bool.false_eq_true]
/-- what is summed from i on -/
def MM (c : Nat → Nat → Nat) (n : Nat) (ws : Nat → Nat) (i : Nat) (A : Nat → Nat → Int32) (J : Nat → Nat → Int64) : Prop :=
  (∀ k, i ≤ k → k < n → A 23 k = nI (fL c n (kap c) k)) ∧ (∀ g, g ≤ 12 → A 24 g = nI (tsG c n (fL c n (kap c)) g i)) ∧ (∀ g, g ≤ 12 → J 25 g = lN (tsG c n (mK c n ws) g i)) ∧ ∀ k, i ≤ k → k < n → c k 0 = 5 → A 26 (nif c k) = zI (alK c n ws k)
end MEASR
