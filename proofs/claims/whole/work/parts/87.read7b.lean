section READ7B
variable {Lx : Nat} {F A : Nat → Nat → Int32} {J : Nat → Nat → Int64} {n ou : Nat} {c : Nat → Nat → Nat} {ws : Nat → Nat}
theorem lg_n {a b : Nat} (ha : a < 2 ^ 31) (hb : b < 2 ^ 31) : (lg_cmp (lN a) (lN b) < 0) ↔ a < b := by rw [lg_lt, lN_lt ha hb]
/-- a cell in bounds -/
theorem t_c {k ln sz fn i cc : Nat} (hk : k < 4) (hl : ln ≤ 2) (hs : sz ≤ 40) (h71 : A 71 k = nI ln) (h72 : A 72 k = nI sz) (hi : i < 13) (hc : cc < 3) (hp : fn + 3 * i + cc < sz) (l4 l6 : Int32) (l9 l10 : Option Value) {X : Option (Option Value × dS)} (hX : den mX7_read 78 [some (.ref 56), some (.int (nI k)), some (.int (nI ln)), some (.int (nI fn)), some (.int l4), some (.int (nI 0)), some (.int l6), some (.int (nI i)), some (.int (nI (cc + 1))), some (.long (lN (fn + 3 * i + cc))), none] [] (mk Lx F A J) = X) : den mX7_read 78 [some (.ref 56), some (.int (nI k)), some (.int (nI ln)), some (.int (nI fn)), some (.int l4), some (.int (nI 0)), some (.int l6), some (.int (nI i)), some (.int (nI cc)), l9, l10] [] (mk Lx F A J) = X := by
  obtain ⟨r84, r86, r89, r90, r91, r92, r94, r95, r96, r97, r99, r100, r101, r103, r104, r107, r108, r109, r111, r114, r115, r118, r119, r122, r123, r124, r125, r128, r129, r132, r134, r135, r136, r139, r141, r142, r145, r146, r147, r148⟩ := SX7_read_1
  obtain ⟨r149, r152, r153, r156, r157, r159, r162, -⟩ := SX7_read_2
  have n4 : ¬ nI ln = (-4) := nI_m4 (by omega)
  have ep : (nI fn).toInt64 + (nI (3 * i)).toInt64 + (nI cc).toInt64 = lN (fn + 3 * i + cc) := by rw [nI_l (by omega), nI_l (by omega), nI_l (by omega), lN_add, lN_add]
  have g1 : ¬ lg_cmp (lN (fn + 3 * i + cc)) (lN 0) < 0 := fun z => absurd ((lg_n (by omega) (by decide)).mp z) (by omega)
  have g2 : lg_cmp (lN (fn + 3 * i + cc)) (nI sz).toInt64 < 0 := by rw [nI_l (by omega)]; exact (lg_n (by omega) (by omega)).mpr hp
  rw [hX7_read_78]
  simp (disch := omega) only [SX7_read_0, r84, r86, r89, r90, r91, r92, r94, r95, r96, r97, r99, r100, r101, r103, r104, r107, r108, r109, r111, r114, r115, r118, r119, r122, r123, r124, r125, r128, r129, r132, r134, G56, leN, a71, h71, n4, nI_ltI, nI_e0, hc, nI_m, ep, eq_self_iff_true, Option.bind_some, Option.bind_none, if_true, if_false, zr0, zr1, one11, one01, one0, one1, Option.toList_some, Option.toList_none, List.cons_append, List.nil_append, Nat.reduceEqDiff, Nat.reduceAdd, not_false_eq_true, not_true_eq_false, and_true, true_and, and_false, false_and, or_true, true_or, or_false, false_or, and_self, or_self, Bool.false_eq_true]
  rw [r135, r136, if_neg g1]
  simp (disch := omega) only [r139, r141, r142, r145, r146, r147, G56, leN, a72, h72, Option.bind_some, Option.bind_none, if_true, if_false, zr0, zr1, one11, one01, one0, one1, Option.toList_some, Option.toList_none, List.cons_append, List.nil_append, Nat.reduceEqDiff, Nat.reduceAdd, not_false_eq_true, not_true_eq_false, and_true, true_and, and_false, false_and, or_true, true_or, or_false, false_or, and_self, or_self, Bool.false_eq_true]
  rw [r148, r149, if_pos g2, r156, r157, r159, nI_add, r162]
  exact hX
/-- a cell out of bounds -/
theorem t_cB {k ln sz fn i cc : Nat} (hk : k < 4) (hl : ln ≤ 2) (hs : sz ≤ 40) (h71 : A 71 k = nI ln) (h72 : A 72 k = nI sz) (hi : i < 13) (hc : cc < 3) (hf : fn < 2 ^ 31) (hp : sz ≤ fn + 3 * i + cc) (hp2 : fn + 3 * i + cc < 2 ^ 31) (l4 l6 : Int32) (l9 l10 : Option Value) {X : Option (Option Value × dS)} (hX : den mX7_read 78 [some (.ref 56), some (.int (nI k)), some (.int (nI ln)), some (.int (nI fn)), some (.int l4), some (.int (nI 2)), some (.int l6), some (.int (nI i)), some (.int (nI (cc + 1))), some (.long (lN (fn + 3 * i + cc))), none] [] (mk Lx F A J) = X) : den mX7_read 78 [some (.ref 56), some (.int (nI k)), some (.int (nI ln)), some (.int (nI fn)), some (.int l4), some (.int (nI 0)), some (.int l6), some (.int (nI i)), some (.int (nI cc)), l9, l10] [] (mk Lx F A J) = X := by
  obtain ⟨r84, r86, r89, r90, r91, r92, r94, r95, r96, r97, r99, r100, r101, r103, r104, r107, r108, r109, r111, r114, r115, r118, r119, r122, r123, r124, r125, r128, r129, r132, r134, r135, r136, r139, r141, r142, r145, r146, r147, r148⟩ := SX7_read_1
  obtain ⟨r149, r152, r153, r156, r157, r159, r162, -⟩ := SX7_read_2
  have n4 : ¬ nI ln = (-4) := nI_m4 (by omega)
  have ep : (nI fn).toInt64 + (nI (3 * i)).toInt64 + (nI cc).toInt64 = lN (fn + 3 * i + cc) := by rw [nI_l (by omega), nI_l (by omega), nI_l (by omega), lN_add, lN_add]
  have g1 : ¬ lg_cmp (lN (fn + 3 * i + cc)) (lN 0) < 0 := fun z => absurd ((lg_n (by omega) (by decide)).mp z) (by omega)
  have g2 : ¬ lg_cmp (lN (fn + 3 * i + cc)) (nI sz).toInt64 < 0 := by
    rw [nI_l (by omega)]
    exact fun z => absurd ((lg_n (by omega) (by omega)).mp z) (by omega)
  rw [hX7_read_78]
  simp (disch := omega) only [SX7_read_0, r84, r86, r89, r90, r91, r92, r94, r95, r96, r97, r99, r100, r101, r103, r104, r107, r108, r109, r111, r114, r115, r118, r119, r122, r123, r124, r125, r128, r129, r132, r134, G56, leN, a71, h71, n4, nI_ltI, nI_e0, hc, nI_m, ep, eq_self_iff_true, Option.bind_some, Option.bind_none, if_true, if_false, zr0, zr1, one11, one01, one0, one1, Option.toList_some, Option.toList_none, List.cons_append, List.nil_append, Nat.reduceEqDiff, Nat.reduceAdd, not_false_eq_true, not_true_eq_false, and_true, true_and, and_false, false_and, or_true, true_or, or_false, false_or, and_self, or_self, Bool.false_eq_true]
  rw [r135, r136, if_neg g1]
  simp (disch := omega) only [r139, r141, r142, r145, r146, r147, G56, leN, a72, h72, Option.bind_some, Option.bind_none, if_true, if_false, zr0, zr1, one11, one01, one0, one1, Option.toList_some, Option.toList_none, List.cons_append, List.nil_append, Nat.reduceEqDiff, Nat.reduceAdd, not_false_eq_true, not_true_eq_false, and_true, true_and, and_false, false_and, or_true, true_or, or_false, false_or, and_self, or_self, Bool.false_eq_true]
  rw [r148, r149, if_neg g2, r152, r153, r157, r159, nI_add, r162]
  exact hX
/-- no sheet, another lane, or before the first cell -/
theorem t_cE {k e : Nat} (hk : k < 4) (l2 f : Int32) (he : (A 71 k = (-4) ∧ e = 1) ∨ (¬ A 71 k = (-4) ∧ ¬ A 71 k = l2 ∧ e = 3) ∨ (¬ A 71 k = (-4) ∧ A 71 k = l2 ∧ f < 0 ∧ e = 2)) (l4 l6 : Int32) (l9 l10 : Option Value) : ∃ l9', ∀ X : Option (Option Value × dS), den mX7_read 78 [some (.ref 56), some (.int (nI k)), some (.int l2), some (.int f), some (.int l4), some (.int (nI e)), some (.int l6), some (.int (nI 0)), some (.int (nI 1)), l9', none] [] (mk Lx F A J) = X → den mX7_read 78 [some (.ref 56), some (.int (nI k)), some (.int l2), some (.int f), some (.int l4), some (.int (nI 0)), some (.int l6), some (.int (nI 0)), some (.int (nI 0)), l9, l10] [] (mk Lx F A J) = X := by
  obtain ⟨r84, r86, r89, r90, r91, r92, r94, r95, r96, r97, r99, r100, r101, r103, r104, r107, r108, r109, r111, r114, r115, r118, r119, r122, r123, r124, r125, r128, r129, r132, r134, r135, r136, r139, r141, r142, r145, r146, r147, r148⟩ := SX7_read_1
  obtain ⟨r149, r152, r153, r156, r157, r159, r162, -⟩ := SX7_read_2
  have h3 : 0 < 3 := by decide
  refine ⟨some (.long (f.toInt64 + (nI (3 * 0)).toInt64 + (nI 0).toInt64)), fun X hX => ?_⟩
  rw [hX7_read_78]
  rcases he with ⟨h1, rfl⟩ | ⟨h1, h2, rfl⟩ | ⟨h1, h2, h4, rfl⟩
  · simp (disch := omega) only [SX7_read_0, r84, r86, r89, r90, r91, r92, r94, r95, r96, r97, r99, r100, r101, r103, r104, r107, r108, r109, r111, r114, r115, r118, r119, r122, r123, r124, r125, r128, r129, r132, r134, r157, r159, r162, G56, leN, a71, h1, nI_ltI, nI_e0, h3, nI_m, nI_add, Nat.zero_add, hX, eq_self_iff_true, Option.bind_some, Option.bind_none, if_true, if_false, zr0, zr1, one11, one01, one0, one1, Option.toList_some, Option.toList_none, List.cons_append, List.nil_append, Nat.reduceEqDiff, Nat.reduceAdd, not_false_eq_true, not_true_eq_false, and_true, true_and, and_false, false_and, or_true, true_or, or_false, false_or, and_self, or_self, Bool.false_eq_true]
  · simp (disch := omega) only [SX7_read_0, r84, r86, r89, r90, r91, r92, r94, r95, r96, r97, r99, r100, r101, r103, r104, r107, r108, r109, r111, r114, r115, r118, r119, r122, r123, r124, r125, r128, r129, r132, r134, r157, r159, r162, G56, leN, a71, h1, h2, nI_ltI, nI_e0, h3, nI_m, nI_add, Nat.zero_add, hX, eq_self_iff_true, Option.bind_some, Option.bind_none, if_true, if_false, zr0, zr1, one11, one01, one0, one1, Option.toList_some, Option.toList_none, List.cons_append, List.nil_append, Nat.reduceEqDiff, Nat.reduceAdd, not_false_eq_true, not_true_eq_false, and_true, true_and, and_false, false_and, or_true, true_or, or_false, false_or, and_self, or_self, Bool.false_eq_true]
  · have g1 : lg_cmp (f.toInt64 + (nI (3 * 0)).toInt64 + (nI 0).toInt64) (lN 0) < 0 := by
      rw [show (nI (3 * 0)).toInt64 = 0 by decide, Int64.add_zero, Int64.add_zero, lg_lt, w64N (by decide), w64lt, n0]
      exact h4
    rw [h2] at h1
    simp (disch := omega) only [SX7_read_0, r84, r86, r89, r90, r91, r92, r94, r95, r96, r97, r99, r100, r101, r103, r104, r107, r108, r109, r111, r114, r115, r118, r119, r122, r123, r124, r125, r128, r129, r132, r134, G56, leN, a71, h2, h1, nI_ltI, nI_e0, h3, nI_m, eq_self_iff_true, Option.bind_some, Option.bind_none, if_true, if_false, zr0, zr1, one11, one01, one0, one1, Option.toList_some, Option.toList_none, List.cons_append, List.nil_append, Nat.reduceEqDiff, Nat.reduceAdd, not_false_eq_true, not_true_eq_false, and_true, true_and, and_false, false_and, or_true, true_or, or_false, false_or, and_self, or_self, Bool.false_eq_true]
    rw [r135, r136, if_pos g1, r152, r153, r157, r159, nI_add, r162]
    exact hX
end READ7B
