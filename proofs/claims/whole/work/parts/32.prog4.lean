section PG4
variable {Lx : Nat} {F A : Nat → Nat → Int32} {J : Nat → Nat → Int64} {P n ou : Nat} {c : Nat → Nat → Nat} {ws : Nat → Nat}
theorem c_mostOfPart (hP : isP P) (h : XP F A P n c ws ou) (hv : PV n c ws ou) {i : Nat} (hi : i < n) (w : Int32) : dcall mX3_mostOfPart [.ref P, .int (nI i), .int w] (mk Lx F A J) = some (some (.int (most (c i 0) w)), mk Lx F A J) := by
  have hn := hv.1
  have hb := hv.b hi
  have x0 := (h.2.2.2.1 i hi).1
  unfold most
  by_cases w1 : w = nI 1
  · simp only [CX3_mostOfPart, SX3_mostOfPart, w1, Option.bind_some, Option.bind_none, if_true, if_false, zr0, zr1, one11, one01, one0, one1, Option.toList_some, Option.toList_none, List.cons_append, List.nil_append, Nat.reduceEqDiff, Nat.reduceAdd, not_false_eq_true, not_true_eq_false, and_true, true_and, and_false, false_and, or_true, true_or, or_false, false_or, and_self, or_self, Bool.false_eq_true]
  · by_cases w2 : w = nI 2
    · subst w2
      by_cases e0 : c i 0 = 0
      · simp (disch := omega) only [CX3_mostOfPart, SX3_mostOfPart, w1, Gp hP, lep hP, ap1 hP, x0, nI_e0, e0, Option.bind_some, Option.bind_none, if_true, if_false, zr0, zr1, one11, one01, one0, one1, Option.toList_some, Option.toList_none, List.cons_append, List.nil_append, Nat.reduceEqDiff, Nat.reduceAdd, not_false_eq_true, not_true_eq_false, and_true, true_and, and_false, false_and, or_true, true_or, or_false, false_or, and_self, or_self, Bool.false_eq_true, true_and, and_true]
      · by_cases e5 : c i 0 = 5
        · simp (disch := omega) only [CX3_mostOfPart, SX3_mostOfPart, w1, Gp hP, lep hP, ap1 hP, x0, nI_e0, nI_eq, e0, e5, Option.bind_some, Option.bind_none, if_true, if_false, zr0, zr1, one11, one01, one0, one1, Option.toList_some, Option.toList_none, List.cons_append, List.nil_append, Nat.reduceEqDiff, Nat.reduceAdd, not_false_eq_true, not_true_eq_false, and_true, true_and, and_false, false_and, or_true, true_or, or_false, false_or, and_self, or_self, Bool.false_eq_true, true_and, and_true]
        · have e14 : 1 ≤ c i 0 ∧ c i 0 ≤ 4 := by omega
          simp (disch := omega) only [CX3_mostOfPart, SX3_mostOfPart, w1, Gp hP, Op hP, lep hP, ap1 hP, x0, nI_e0, nI_eq, e0, e5, Option.bind_some, Option.bind_none, if_true, if_false, zr0, zr1, one11, one01, one0, one1, Option.toList_some, Option.toList_none, List.cons_append, List.nil_append, Nat.reduceEqDiff, Nat.reduceAdd, not_false_eq_true, not_true_eq_false, and_true, true_and, and_false, false_and, or_true, true_or, or_false, false_or, and_self, or_self, Bool.false_eq_true, c_isCompute hP h hv hi, bI_0, e14, true_and, and_true, not_true_eq_false, true_or, and_false]
    · by_cases w3 : w = nI 3
      · subst w3
        by_cases e14 : 1 ≤ c i 0 ∧ c i 0 ≤ 4
        · simp (disch := omega) only [CX3_mostOfPart, SX3_mostOfPart, w1, w2, Op hP, Option.bind_some, Option.bind_none, if_true, if_false, zr0, zr1, one11, one01, one0, one1, Option.toList_some, Option.toList_none, List.cons_append, List.nil_append, Nat.reduceEqDiff, Nat.reduceAdd, not_false_eq_true, not_true_eq_false, and_true, true_and, and_false, false_and, or_true, true_or, or_false, false_or, and_self, or_self, Bool.false_eq_true, c_isCompute hP h hv hi, bI_0, e14, not_true_eq_false, or_true, true_and, false_and, and_true]
        · simp (disch := omega) only [CX3_mostOfPart, SX3_mostOfPart, w1, w2, Op hP, Option.bind_some, Option.bind_none, if_true, if_false, zr0, zr1, one11, one01, one0, one1, Option.toList_some, Option.toList_none, List.cons_append, List.nil_append, Nat.reduceEqDiff, Nat.reduceAdd, not_false_eq_true, not_true_eq_false, and_true, true_and, and_false, false_and, or_true, true_or, or_false, false_or, and_self, or_self, Bool.false_eq_true, c_isCompute hP h hv hi, bI_0, e14, not_false_eq_true, or_true, true_and, false_and, and_false]
      · simp only [CX3_mostOfPart, SX3_mostOfPart, w1, w2, w3, Option.bind_some, Option.bind_none, if_true, if_false, zr0, zr1, one11, one01, one0, one1, Option.toList_some, Option.toList_none, List.cons_append, List.nil_append, Nat.reduceEqDiff, Nat.reduceAdd, not_false_eq_true, not_true_eq_false, and_true, true_and, and_false, false_and, or_true, true_or, or_false, false_or, and_self, or_self, Bool.false_eq_true, false_and, or_false]
theorem c_mayChange (hP : isP P) (h : XP F A P n c ws ou) (hv : PV n c ws ou) (i w v : Int32) : ∃ b : Int32, dcall mX3_mayChange [.ref P, .int i, .int w, .int v] (mk Lx F A J) = some (some (.int b), mk Lx F A J) ∧ ((b = nI 1 ∧ mayC n c i w v) ∨ (b = nI 0 ∧ ¬ mayC n c i w v)) := by
  have hn := hv.1
  by_cases h1 : ¬ i < 0 ∧ i < nI n
  · obtain ⟨j, hj, rfl⟩ : ∃ j : Nat, j < n ∧ i = nI j := by
      obtain ⟨j, hj, rfl⟩ := nI_of h1.1
      exact ⟨j, (nI_ltI hj (by omega)).mp h1.2, rfl⟩
    by_cases h2 : v < 0
    · refine ⟨nI 0, ?_, Or.inr ⟨rfl, fun z => z.2.1 h2⟩⟩
      simp only [CX3_mayChange, SX3_mayChange, Op hP, c_hasInstruction hP h hn, bI_0, h1, h2, not_true_eq_false, Option.bind_some, Option.bind_none, if_true, if_false, zr0, zr1, one11, one01, one0, one1, Option.toList_some, Option.toList_none, List.cons_append, List.nil_append, Nat.reduceEqDiff, Nat.reduceAdd, not_false_eq_true, not_true_eq_false, and_true, true_and, and_false, false_and, or_true, true_or, or_false, false_or, and_self, or_self, Bool.false_eq_true]
    · by_cases h3 : most (c j 0) w < v
      · refine ⟨nI 0, ?_, Or.inr ⟨rfl, fun z => ?_⟩⟩
        · simp only [CX3_mayChange, SX3_mayChange, Op hP, c_hasInstruction hP h hn, bI_0, h1, h2, h3, not_true_eq_false, Option.bind_some, Option.bind_none, if_true, if_false, zr0, zr1, one11, one01, one0, one1, Option.toList_some, Option.toList_none, List.cons_append, List.nil_append, Nat.reduceEqDiff, Nat.reduceAdd, not_false_eq_true, not_true_eq_false, and_true, true_and, and_false, false_and, or_true, true_or, or_false, false_or, and_self, or_self, Bool.false_eq_true, c_mostOfPart hP h hv hj]
        · have := z.2.2
          rw [nI_clamp (by omega)] at this
          exact Int32.not_le.mpr h3 this
      · refine ⟨nI 1, ?_, Or.inl ⟨rfl, h1, h2, ?_⟩⟩
        · simp only [CX3_mayChange, SX3_mayChange, Op hP, c_hasInstruction hP h hn, bI_0, h1, h2, h3, not_true_eq_false, Option.bind_some, Option.bind_none, if_true, if_false, zr0, zr1, one11, one01, one0, one1, Option.toList_some, Option.toList_none, List.cons_append, List.nil_append, Nat.reduceEqDiff, Nat.reduceAdd, not_false_eq_true, not_true_eq_false, and_true, true_and, and_false, false_and, or_true, true_or, or_false, false_or, and_self, or_self, Bool.false_eq_true, c_mostOfPart hP h hv hj]
        · rw [nI_clamp (by omega)]
          exact Int32.not_lt.mp h3
  · refine ⟨nI 0, ?_, Or.inr ⟨rfl, fun z => h1 z.1⟩⟩
    simp only [CX3_mayChange, SX3_mayChange, Op hP, c_hasInstruction hP h hn, bI_0, h1, not_false_eq_true, Option.bind_some, Option.bind_none, if_true, if_false, zr0, zr1, one11, one01, one0, one1, Option.toList_some, Option.toList_none, List.cons_append, List.nil_append, Nat.reduceEqDiff, Nat.reduceAdd, not_false_eq_true, not_true_eq_false, and_true, true_and, and_false, false_and, or_true, true_or, or_false, false_or, and_self, or_self, Bool.false_eq_true]
/-- what a change that may be made is, in plain numbers -/
theorem mayC_nat {i w v : Int32} (hn : n ≤ 24) (h : mayC n c i w v) : ∃ j k u : Nat, j < n ∧ i = nI j ∧ w = nI k ∧ v = nI u ∧ ((k = 1 ∧ u ≤ 7) ∨ (k = 2 ∧ c j 0 = 0 ∧ u ≤ 99) ∨ (k = 2 ∧ c j 0 = 5 ∧ u ≤ 10) ∨ ((k = 2 ∨ k = 3) ∧ 1 ≤ c j 0 ∧ c j 0 ≤ 4 ∧ u ≤ 7)) := by
  obtain ⟨h1, h2, h3⟩ := h
  obtain ⟨j, hj, rfl⟩ := nI_of h1.1
  have hjn : j < n := (nI_ltI hj (by omega)).mp h1.2
  obtain ⟨u, hu, rfl⟩ := nI_of h2
  rw [nI_clamp hj] at h3
  unfold most at h3
  split at h3
  · rename_i e
    exact ⟨j, 1, u, hjn, rfl, e, rfl, Or.inl ⟨rfl, (nI_leI hu (by decide)).mp h3⟩⟩
  · split at h3
    · rename_i e
      exact ⟨j, 2, u, hjn, rfl, e.1, rfl, Or.inr (Or.inl ⟨rfl, e.2, (nI_leI hu (by decide)).mp h3⟩)⟩
    · split at h3
      · rename_i e
        exact ⟨j, 2, u, hjn, rfl, e.1, rfl, Or.inr (Or.inr (Or.inl ⟨rfl, e.2, (nI_leI hu (by decide)).mp h3⟩))⟩
      · split at h3
        · rename_i e
          have hu7 := (nI_leI hu (by decide)).mp h3
          rcases e.1 with z | z
          · exact ⟨j, 2, u, hjn, rfl, z, rfl, Or.inr (Or.inr (Or.inr ⟨Or.inl rfl, e.2.1, e.2.2, hu7⟩))⟩
          · exact ⟨j, 3, u, hjn, rfl, z, rfl, Or.inr (Or.inr (Or.inr ⟨Or.inr rfl, e.2.1, e.2.2, hu7⟩))⟩
        · exact absurd h3 (fun z => by
            have h4 := Int32.le_iff_toInt_le.mp z
            rw [nI_toInt hu] at h4
            have : ((-4 : Int32)).toInt = -4 := by decide
            omega)
theorem c_change (hP : isP P) {i w : Nat} (v : Int32) (hi : i < 24) (hw : w = 1 ∨ w = 2 ∨ w = 3) : dcall mX3_change [.ref P, .int (nI i), .int (nI w), .int v] (mk Lx F A J) = some (some (.int (A (P + 1 + w) i)), mk Lx F (up A (P + 1 + w) (up (A (P + 1 + w)) i v)) J) := by
  rcases hw with rfl | rfl | rfl
  · simp (disch := omega) only [CX3_change, SX3_change, Gp hP, lep hP, ap2 hP, wp2 hP, Option.bind_some, Option.bind_none, if_true, if_false, zr0, zr1, one11, one01, one0, one1, Option.toList_some, Option.toList_none, List.cons_append, List.nil_append, Nat.reduceEqDiff, Nat.reduceAdd, not_false_eq_true, not_true_eq_false, and_true, true_and, and_false, false_and, or_true, true_or, or_false, false_or, and_self, or_self, Bool.false_eq_true]
  · simp (disch := omega) only [CX3_change, SX3_change, Gp hP, lep hP, ap3 hP, wp3 hP, nI_eq, Option.bind_some, Option.bind_none, if_true, if_false, zr0, zr1, one11, one01, one0, one1, Option.toList_some, Option.toList_none, List.cons_append, List.nil_append, Nat.reduceEqDiff, Nat.reduceAdd, not_false_eq_true, not_true_eq_false, and_true, true_and, and_false, false_and, or_true, true_or, or_false, false_or, and_self, or_self, Bool.false_eq_true, show ¬ (2 : Nat) = 1 by decide]
  · simp (disch := omega) only [CX3_change, SX3_change, Gp hP, lep hP, ap4 hP, wp4 hP, nI_eq, Option.bind_some, Option.bind_none, if_true, if_false, zr0, zr1, one11, one01, one0, one1, Option.toList_some, Option.toList_none, List.cons_append, List.nil_append, Nat.reduceEqDiff, Nat.reduceAdd, not_false_eq_true, not_true_eq_false, and_true, true_and, and_false, false_and, or_true, true_or, or_false, false_or, and_self, or_self, Bool.false_eq_true, show ¬ (3 : Nat) = 1 by decide, show ¬ (3 : Nat) = 2 by decide]
/-- the picture behind a change -/
theorem XP_change {i w u : Nat} (h : XP F A P n c ws ou) (hi : i < n) (hw : w = 1 ∨ w = 2 ∨ w = 3) : XP F (up A (P + 1 + w) (up (A (P + 1 + w)) i (nI u))) P n (up c i (up (c i) w u)) ws ou := by
  have hk : ∀ j, up c i (up (c i) w u) j 0 = c j 0 := fun j => by
    by_cases e : j = i
    · subst e; rw [up_eq, up_ne _ _ (by omega)]
    · rw [up_ne _ _ e]
  have hnif : ∀ m, nif (up c i (up (c i) w u)) m = nif c m := fun m => nif_cong (fun j _ => hk j)
  have hipl : ∀ m j, ipl (up c i (up (c i) w u)) m j = ipl c m j := by
    intro m j
    induction m with
    | zero => rfl
    | succ m ih => rw [ipl, ipl, ih, hk, hnif]
  obtain ⟨h1, h2, h3, h4, h5, h6⟩ := h
  have row : ∀ d, 1 ≤ d → d ≤ 5 → ∀ j, j < n → up A (P + 1 + w) (up (A (P + 1 + w)) i (nI u)) (P + d) j = nI (up c i (up (c i) w u) j (d - 1)) := by
    intro d hd1 hd2 j hj
    obtain ⟨x0, x1, x2, x3, x4⟩ := h4 j hj
    have hx : A (P + d) j = nI (c j (d - 1)) := by
      have : d = 1 ∨ d = 2 ∨ d = 3 ∨ d = 4 ∨ d = 5 := by omega
      rcases this with rfl | rfl | rfl | rfl | rfl
      · exact x0
      · exact x1
      · exact x2
      · exact x3
      · exact x4
    by_cases ed : d = w + 1
    · subst ed
      rw [show P + (w + 1) = P + 1 + w by omega, up_eq]
      by_cases ej : j = i
      · subst ej
        rw [up_eq, up_eq, show w + 1 - 1 = w by omega, up_eq]
      · rw [up_ne _ _ ej, up_ne _ _ ej, ← hx]
        congr 1
        omega
    · rw [up_ne _ _ (by omega), hx]
      by_cases ej : j = i
      · subst ej
        rw [up_eq, up_ne _ _ (by omega)]
      · rw [up_ne _ _ ej]
  refine ⟨h1, by rw [hnif]; exact h2, h3, fun j hj => ⟨row 1 (by omega) (by omega) j hj, row 2 (by omega) (by omega) j hj, row 3 (by omega) (by omega) j hj, row 4 (by omega) (by omega) j hj, row 5 (by omega) (by omega) j hj⟩, fun j hj => ?_, fun j hj => ?_⟩
  · rw [hnif] at hj
    rw [hipl, up_ne _ _ (by omega)]
    exact h5 j hj
  · rw [hnif] at hj
    rw [up_ne _ _ (by omega)]
    exact h6 j hj
end PG4
