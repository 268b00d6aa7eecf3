section READ7
variable {Lx : Nat} {F A : Nat → Nat → Int32} {J : Nat → Nat → Int64} {n ou : Nat} {c : Nat → Nat → Nat} {ws : Nat → Nat}
theorem l_bf (l1 l2 l3 : Option Value) (l4 : Int32) (l8 l9 l10 : Option Value) : ∀ K t (A : Nat → Nat → Int32) (l6 l7 : Option Value), t + K = 128 → ∃ g, (∀ s, s < 128 → g s = if t ≤ s then A 57 s else A 74 s) ∧ ∀ X : Option (Option Value × dS), den mX7_read 63 [some (.ref 56), l1, l2, l3, some (.int l4), some (.int (nI 0)), some (.int (nI 0)), some (.int (nI 0)), l8, l9, l10] [] (mk Lx F (up A 74 g) J) = X → den mX7_read 26 [some (.ref 56), l1, l2, l3, some (.int l4), some (.int (nI t)), l6, l7, l8, l9, l10] [] (mk Lx F A J) = X := by
  intro K
  induction K with
  | zero =>
    intro t A l6 l7 ht
    have hlt : ¬ t < 128 := by omega
    refine ⟨A 74, fun s hs => by rw [if_neg (by omega)], fun X hX => ?_⟩
    rw [up_id] at hX
    rw [hX7_read_26]
    simp (disch := omega) only [SX7_read_0, nI_ltI, hlt, hX, Option.bind_some, Option.bind_none, if_true, if_false, zr0, zr1, one11, one01, one0, one1, Option.toList_some, Option.toList_none, List.cons_append, List.nil_append, Nat.reduceEqDiff, Nat.reduceAdd, not_false_eq_true, not_true_eq_false, and_true, true_and, and_false, false_and, or_true, true_or, or_false, false_or, and_self, or_self, Bool.false_eq_true]
  | succ K ih =>
    intro t A l6 l7 ht
    have hlt : t < 128 := by omega
    obtain ⟨g, g1, g2⟩ := ih (t + 1) (up A 74 (up (A 74) t (A 57 t))) l6 l7 (by omega)
    refine ⟨g, fun s hs => ?_, fun X hX => ?_⟩
    · rw [g1 s hs, up_eq, up_ne _ _ (by omega)]
      by_cases z : s = t
      · rw [z, if_neg (by omega), up_eq, if_pos (Nat.le_refl t)]
      · rw [up_ne _ _ z]
        by_cases y : t ≤ s
        · rw [if_pos (by omega), if_pos y]
        · rw [if_neg (by omega), if_neg y]
    · have e := g2 X (by rw [up_up]; exact hX)
      rw [hX7_read_26]
      simp (disch := omega) only [SX7_read_0, G56, leN, nI_ltI, hlt, a57, w74, nI_add, e, Option.bind_some, Option.bind_none, if_true, if_false, zr0, zr1, one11, one01, one0, one1, Option.toList_some, Option.toList_none, List.cons_append, List.nil_append, Nat.reduceEqDiff, Nat.reduceAdd, not_false_eq_true, not_true_eq_false, and_true, true_and, and_false, false_and, or_true, true_or, or_false, false_or, and_self, or_self, Bool.false_eq_true]
theorem l_bk (l1 l2 l3 l4 l5 l6 : Option Value) (l8 : Int32) (l10 : Option Value) (i : Int32) : ∀ K t (A : Nat → Nat → Int32), t + K = 128 → ∃ g, (∀ s, s < 128 → g s = if t ≤ s then A 74 s else A 57 s) ∧ den mX7_read 218 [some (.ref 56), l1, l2, l3, l4, l5, l6, some (.int i), some (.int l8), some (.int (nI t)), l10] [] (mk Lx F A J) = some (some (.int ((-20) - i)), mk Lx F (up A 57 g) J) := by
  intro K
  induction K with
  | zero =>
    intro t A ht
    have hlt : ¬ t < 128 := by omega
    refine ⟨A 57, fun s hs => by rw [if_neg (by omega)], ?_⟩
    rw [hX7_read_218, up_id]
    simp (disch := omega) only [SX7_read_3, nI_ltI, hlt, Option.bind_some, Option.bind_none, if_true, if_false, zr0, zr1, one11, one01, one0, one1, Option.toList_some, Option.toList_none, List.cons_append, List.nil_append, Nat.reduceEqDiff, Nat.reduceAdd, not_false_eq_true, not_true_eq_false, and_true, true_and, and_false, false_and, or_true, true_or, or_false, false_or, and_self, or_self, Bool.false_eq_true]
  | succ K ih =>
    intro t A ht
    have hlt : t < 128 := by omega
    obtain ⟨g, g1, g2⟩ := ih (t + 1) (up A 57 (up (A 57) t (A 74 t))) (by omega)
    rw [up_up] at g2
    refine ⟨g, fun s hs => ?_, ?_⟩
    · rw [g1 s hs, up_eq, up_ne _ _ (by omega)]
      by_cases z : s = t
      · rw [z, if_neg (by omega), up_eq, if_pos (Nat.le_refl t)]
      · rw [up_ne _ _ z]
        by_cases y : t ≤ s
        · rw [if_pos (by omega), if_pos y]
        · rw [if_neg (by omega), if_neg y]
    · rw [hX7_read_218]
      simp (disch := omega) only [SX7_read_3, G56, leN, nI_ltI, hlt, a74, w57, nI_add, g2, Option.bind_some, Option.bind_none, if_true, if_false, zr0, zr1, one11, one01, one0, one1, Option.toList_some, Option.toList_none, List.cons_append, List.nil_append, Nat.reduceEqDiff, Nat.reduceAdd, not_false_eq_true, not_true_eq_false, and_true, true_and, and_false, false_and, or_true, true_or, or_false, false_or, and_self, or_self, Bool.false_eq_true]
/-- the reason stands: the end -/
theorem t_end {e w i : Nat} (he : 0 < e) (he3 : e ≤ 3) (hi : i < 100) {nn cc : Nat} (hnn : nn ≤ 13) (hc : cc ≤ 3) (l1 l2 l3 l9 l10 : Option Value) : den mX7_read 78 [some (.ref 56), l1, l2, l3, some (.int (nI nn)), some (.int (nI e)), some (.int (nI w)), some (.int (nI i)), some (.int (nI cc)), l9, l10] [] (mk Lx F A J) = some (some (.int (nI w)), mk Lx (up F 56 (up (F 56) 32 (nI e))) A J) := by
  have e0 : ¬ e = 0 := by omega
  obtain ⟨r84, r86, -⟩ := SX7_read_1
  rw [hX7_read_78]
  by_cases h1 : cc < 3
  · by_cases h2 : i + 1 < nn
    · simp (disch := omega) only [SX7_read_0, r84, r86, SX7_read_2, SX7_read_3, hX7_read_63, P56, nI_ltI, nI_e0, h1, h2, e0, nI_add, Option.bind_some, Option.bind_none, if_true, if_false, zr0, zr1, one11, one01, one0, one1, Option.toList_some, Option.toList_none, List.cons_append, List.nil_append, Nat.reduceEqDiff, Nat.reduceAdd, not_false_eq_true, not_true_eq_false, and_true, true_and, and_false, false_and, or_true, true_or, or_false, false_or, and_self, or_self, Bool.false_eq_true]
    · simp (disch := omega) only [SX7_read_0, r84, r86, SX7_read_2, SX7_read_3, hX7_read_63, P56, nI_ltI, nI_e0, h1, h2, e0, nI_add, Option.bind_some, Option.bind_none, if_true, if_false, zr0, zr1, one11, one01, one0, one1, Option.toList_some, Option.toList_none, List.cons_append, List.nil_append, Nat.reduceEqDiff, Nat.reduceAdd, not_false_eq_true, not_true_eq_false, and_true, true_and, and_false, false_and, or_true, true_or, or_false, false_or, and_self, or_self, Bool.false_eq_true]
  · by_cases h2 : i + 1 < nn
    · simp (disch := omega) only [SX7_read_0, r84, r86, SX7_read_2, SX7_read_3, hX7_read_63, P56, nI_ltI, nI_e0, h1, h2, e0, nI_add, Option.bind_some, Option.bind_none, if_true, if_false, zr0, zr1, one11, one01, one0, one1, Option.toList_some, Option.toList_none, List.cons_append, List.nil_append, Nat.reduceEqDiff, Nat.reduceAdd, not_false_eq_true, not_true_eq_false, and_true, true_and, and_false, false_and, or_true, true_or, or_false, false_or, and_self, or_self, Bool.false_eq_true]
    · simp (disch := omega) only [SX7_read_0, r84, r86, SX7_read_2, SX7_read_3, hX7_read_63, P56, nI_ltI, nI_e0, h1, h2, e0, nI_add, Option.bind_some, Option.bind_none, if_true, if_false, zr0, zr1, one11, one01, one0, one1, Option.toList_some, Option.toList_none, List.cons_append, List.nil_append, Nat.reduceEqDiff, Nat.reduceAdd, not_false_eq_true, not_true_eq_false, and_true, true_and, and_false, false_and, or_true, true_or, or_false, false_or, and_self, or_self, Bool.false_eq_true]
end READ7
