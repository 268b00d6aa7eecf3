section PG3
variable {Lx : Nat} {F A : Nat → Nat → Int32} {J : Nat → Nat → Int64} {P n ou : Nat} {c : Nat → Nat → Nat} {ws : Nat → Nat}
theorem l_isWithin (hP : isP P) (h : XP F A P n c ws ou) (hv : PV n c ws ou) (g0 : Nat) {hh : Nat} (hh2 : hh ≤ 12) : ∀ k d g, g ≤ 2 * nif c n → d + k = 6 → (g + 1) / 2 ≤ k → den mX3_isWithin 5 [some (.ref P), some (.int (nI g0)), some (.int (nI hh)), some (.int (nI g)), some (.int (nI d))] [] (mk Lx F A J) = some (some (.int (bI (wit c n k g hh = true))), mk Lx F A J) := by
  have hn6 := hv.2.1
  intro k
  induction k with
  | zero =>
    intro d g hg hd hk
    have hg0 : g = 0 := by omega
    subst hg0
    have : ¬ d < 6 := by omega
    rw [hX3_isWithin_5]
    by_cases e : 0 = hh
    · subst e
      simp (disch := omega) only [SX3_isWithin, nI_ltI, this, Option.bind_some, Option.bind_none, if_true, if_false, zr0, zr1, one11, one01, one0, one1, Option.toList_some, Option.toList_none, List.cons_append, List.nil_append, Nat.reduceEqDiff, Nat.reduceAdd, not_false_eq_true, not_true_eq_false, and_true, true_and, and_false, false_and, or_true, true_or, or_false, false_or, and_self, or_self, Bool.false_eq_true, wit, beq_self_eq_true, bI]
    · have e2 : (0 == hh) = false := by simp [e]
      simp (disch := omega) only [SX3_isWithin, nI_ltI, this, nI_eq, e, Option.bind_some, Option.bind_none, if_true, if_false, zr0, zr1, one11, one01, one0, one1, Option.toList_some, Option.toList_none, List.cons_append, List.nil_append, Nat.reduceEqDiff, Nat.reduceAdd, not_false_eq_true, not_true_eq_false, and_true, true_and, and_false, false_and, or_true, true_or, or_false, false_or, and_self, or_self, Bool.false_eq_true, wit, e2, Bool.false_eq_true, bI]
  | succ k ih =>
    intro d g hg hd hk
    have hlt : d < 6 := by omega
    rw [hX3_isWithin_5]
    by_cases e : g = hh
    · subst e
      by_cases hc : g = 0
      · subst hc
        simp (disch := omega) only [SX3_isWithin, nI_ltI, nI_g0, hlt, Nat.lt_irrefl, Option.bind_some, Option.bind_none, if_true, if_false, zr0, zr1, one11, one01, one0, one1, Option.toList_some, Option.toList_none, List.cons_append, List.nil_append, Nat.reduceEqDiff, Nat.reduceAdd, not_false_eq_true, not_true_eq_false, and_true, true_and, and_false, false_and, or_true, true_or, or_false, false_or, and_self, or_self, Bool.false_eq_true, wit, bI]
      · have hpos : 0 < g := by omega
        simp (disch := omega) only [SX3_isWithin, nI_ltI, nI_g0, hlt, hpos, Option.bind_some, Option.bind_none, if_true, if_false, zr0, zr1, one11, one01, one0, one1, Option.toList_some, Option.toList_none, List.cons_append, List.nil_append, Nat.reduceEqDiff, Nat.reduceAdd, not_false_eq_true, not_true_eq_false, and_true, true_and, and_false, false_and, or_true, true_or, or_false, false_or, and_self, or_self, Bool.false_eq_true, wit, bI]
    · by_cases hc : g = 0
      · subst hc
        simp (disch := omega) only [SX3_isWithin, nI_ltI, nI_g0, nI_eq, e, hlt, Nat.lt_irrefl, Option.bind_some, Option.bind_none, if_true, if_false, zr0, zr1, one11, one01, one0, one1, Option.toList_some, Option.toList_none, List.cons_append, List.nil_append, Nat.reduceEqDiff, Nat.reduceAdd, not_false_eq_true, not_true_eq_false, and_true, true_and, and_false, false_and, or_true, true_or, or_false, false_or, and_self, or_self, Bool.false_eq_true, wit, bI, Bool.false_eq_true]
      · have hp := par_lt hv (by omega) hg
        have hpos : 0 < g := by omega
        simp (disch := omega) only [SX3_isWithin, Op hP, nI_ltI, nI_g0, nI_eq, e, hlt, hpos, hc, c_parentOf hP h hv hg, Option.bind_some, Option.bind_none, if_true, if_false, zr0, zr1, one11, one01, one0, one1, Option.toList_some, Option.toList_none, List.cons_append, List.nil_append, Nat.reduceEqDiff, Nat.reduceAdd, not_false_eq_true, not_true_eq_false, and_true, true_and, and_false, false_and, or_true, true_or, or_false, false_or, and_self, or_self, Bool.false_eq_true, nI_add]
        rw [ih (d + 1) (par c n g) hp.2.2.1 (by omega) (by omega), wit, if_neg e, if_neg hc]
theorem c_isWithin (hP : isP P) (h : XP F A P n c ws ou) (hv : PV n c ws ou) {g hh : Nat} (hg : g ≤ 2 * nif c n) (hh2 : hh ≤ 12) : dcall mX3_isWithin [.ref P, .int (nI g), .int (nI hh)] (mk Lx F A J) = some (some (.int (bI (wit c n 6 g hh = true))), mk Lx F A J) := by
  have hn6 := hv.2.1
  simp only [CX3_isWithin, SX3_isWithin]
  exact l_isWithin hP h hv g hh2 6 0 g hg (by omega) (by omega)
theorem l_greatestDepth (hP : isP P) (h : XP F A P n c ws ou) (hv : PV n c ws ou) : ∀ k g a, g + k = 2 * nif c n + 1 → a ≤ 6 → den mX3_greatestDepth 4 [some (.ref P), some (.int (nI a)), some (.int (nI g))] [] (mk Lx F A J) = some (some (.int (nI (maxF (dep c n 6) g k a))), mk Lx F A J) := by
  have hn6 := hv.2.1
  intro k
  induction k with
  | zero =>
    intro g a hg ha
    have : ¬ g < 2 * nif c n + 1 := by omega
    rw [hX3_greatestDepth_4]
    simp (disch := omega) only [SX3_greatestDepth, Op hP, c_guardCount hP h, nI_ltI, this, Option.bind_some, Option.bind_none, if_true, if_false, zr0, zr1, one11, one01, one0, one1, Option.toList_some, Option.toList_none, List.cons_append, List.nil_append, Nat.reduceEqDiff, Nat.reduceAdd, not_false_eq_true, not_true_eq_false, and_true, true_and, and_false, false_and, or_true, true_or, or_false, false_or, and_self, or_self, Bool.false_eq_true, maxF]
  | succ k ih =>
    intro g a hg ha
    have hlt : g < 2 * nif c n + 1 := by omega
    have hdl := dep_le c n 6 g
    have hg2 : g ≤ 2 * nif c n := by omega
    rw [hX3_greatestDepth_4]
    simp (disch := omega) only [SX3_greatestDepth, Op hP, c_guardCount hP h, nI_ltI, hlt, c_depthOf hP h hv hg2, Option.bind_some, Option.bind_none, if_true, if_false, zr0, zr1, one11, one01, one0, one1, Option.toList_some, Option.toList_none, List.cons_append, List.nil_append, Nat.reduceEqDiff, Nat.reduceAdd, not_false_eq_true, not_true_eq_false, and_true, true_and, and_false, false_and, or_true, true_or, or_false, false_or, and_self, or_self, Bool.false_eq_true, maxF, nI_add]
    by_cases e : a < dep c n 6 g
    · simp only [e, if_true]
      exact ih (g + 1) _ (by omega) (by omega)
    · simp only [e, if_false]
      exact ih (g + 1) _ (by omega) ha
theorem c_greatestDepth (hP : isP P) (h : XP F A P n c ws ou) (hv : PV n c ws ou) : dcall mX3_greatestDepth [.ref P] (mk Lx F A J) = some (some (.int (nI (maxF (dep c n 6) 0 (2 * nif c n + 1) 0))), mk Lx F A J) := by
  simp only [CX3_greatestDepth, SX3_greatestDepth]
  exact l_greatestDepth hP h hv (2 * nif c n + 1) 0 0 (by omega) (by omega)
theorem e2 : (nI 2 = 0) ↔ False := by decide
theorem irem2 {g : Nat} (h : g < 2 ^ 31) : nI g - nI g / nI 2 * nI 2 = nI (g % 2) := pk_rem h (by decide) (by decide)
theorem c_isYes {g : Nat} (h : g ≤ 12) (σ : dS) : dcall mX3_isYes [.int (nI g)] σ = some (some (.int (bI (g % 2 = 1))), σ) := by
  simp (disch := omega) only [CX3_isYes, SX3_isYes, e2, irem2, nI_eq, Option.bind_some, Option.bind_none, if_true, if_false, zr0, zr1, one11, one01, one0, one1, Option.toList_some, Option.toList_none, List.cons_append, List.nil_append, Nat.reduceEqDiff, Nat.reduceAdd, not_false_eq_true, not_true_eq_false, and_true, true_and, and_false, false_and, or_true, true_or, or_false, false_or, and_self, or_self, Bool.false_eq_true]
  by_cases e : g % 2 = 1
  · simp only [e, Option.bind_some, Option.bind_none, if_true, if_false, zr0, zr1, one11, one01, one0, one1, Option.toList_some, Option.toList_none, List.cons_append, List.nil_append, Nat.reduceEqDiff, Nat.reduceAdd, not_false_eq_true, not_true_eq_false, and_true, true_and, and_false, false_and, or_true, true_or, or_false, false_or, and_self, or_self, Bool.false_eq_true, bI]
  · simp only [e, Option.bind_some, Option.bind_none, if_true, if_false, zr0, zr1, one11, one01, one0, one1, Option.toList_some, Option.toList_none, List.cons_append, List.nil_append, Nat.reduceEqDiff, Nat.reduceAdd, not_false_eq_true, not_true_eq_false, and_true, true_and, and_false, false_and, or_true, true_or, or_false, false_or, and_self, or_self, Bool.false_eq_true, bI]
theorem c_tenthsOf (hP : isP P) (h : XP F A P n c ws ou) (hv : PV n c ws ou) {g : Nat} (h0 : 0 < g) (hg : g ≤ 2 * nif c n) : dcall mX3_tenthsOf [.ref P, .int (nI g)] (mk Lx F A J) = some (some (.int (nI (if g % 2 = 1 then c (ipl c n ((g - 1) / 2)) 2 else 10 - c (ipl c n ((g - 1) / 2)) 2))), mk Lx F A J) := by
  have hn6 := hv.2.1
  have hn := hv.1
  have hj : (g - 1) / 2 < nif c n := by omega
  obtain ⟨h1, h2, h3⟩ := ipl_spec hj
  have hl : ipl c n ((g - 1) / 2) < 24 := by omega
  have ht := (hv.2.2.2.1 _ h1).2.2.1
  rw [if_neg (by omega), if_pos h2] at ht
  have hg0 : ¬ g = 0 := by omega
  have hg12 : g ≤ 12 := by omega
  by_cases e : g % 2 = 1
  · simp (disch := omega) only [CX3_tenthsOf, SX3_tenthsOf, Gp hP, Op hP, lep hP, c_makerOf hP h hv hg, hg0, ap3 hP hl, (h.2.2.2.1 _ h1).2.2.1, c_isYes hg12, bI_0, e, not_true_eq_false, Option.bind_some, Option.bind_none, if_true, if_false, zr0, zr1, one11, one01, one0, one1, Option.toList_some, Option.toList_none, List.cons_append, List.nil_append, Nat.reduceEqDiff, Nat.reduceAdd, not_false_eq_true, not_true_eq_false, and_true, true_and, and_false, false_and, or_true, true_or, or_false, false_or, and_self, or_self, Bool.false_eq_true]
  · simp (disch := omega) only [CX3_tenthsOf, SX3_tenthsOf, Gp hP, Op hP, lep hP, c_makerOf hP h hv hg, hg0, ap3 hP hl, (h.2.2.2.1 _ h1).2.2.1, c_isYes hg12, bI_0, e, not_false_eq_true, nI_s, Option.bind_some, Option.bind_none, if_true, if_false, zr0, zr1, one11, one01, one0, one1, Option.toList_some, Option.toList_none, List.cons_append, List.nil_append, Nat.reduceEqDiff, Nat.reduceAdd, not_false_eq_true, not_true_eq_false, and_true, true_and, and_false, false_and, or_true, true_or, or_false, false_or, and_self, or_self, Bool.false_eq_true]
theorem c_readsOf (hP : isP P) (h : XP F A P n c ws ou) (hv : PV n c ws ou) {i : Nat} (hi : i < n) : dcall mX3_readsOf [.ref P, .int (nI i)] (mk Lx F A J) = some (some (.int (nI (if c i 0 = 0 then 0 else if c i 0 = 5 then 2 ^ c i 1 else 2 ^ c i 2 ||| 2 ^ c i 3))), mk Lx F A J) := by
  have hn := hv.1
  have hb := hv.b hi
  have hs := (hv.2.2.2.1 i hi).2.2.1
  obtain ⟨x0, x1, x2, x3, x4⟩ := h.2.2.2.1 i hi
  by_cases e0 : c i 0 = 0
  · simp (disch := omega) only [CX3_readsOf, SX3_readsOf, Gp hP, lep hP, ap1 hP, x0, nI_e0, e0, Option.bind_some, Option.bind_none, if_true, if_false, zr0, zr1, one11, one01, one0, one1, Option.toList_some, Option.toList_none, List.cons_append, List.nil_append, Nat.reduceEqDiff, Nat.reduceAdd, not_false_eq_true, not_true_eq_false, and_true, true_and, and_false, false_and, or_true, true_or, or_false, false_or, and_self, or_self, Bool.false_eq_true]
  · by_cases e5 : c i 0 = 5
    · simp (disch := omega) only [CX3_readsOf, SX3_readsOf, Gp hP, lep hP, ap1 hP, ap2 hP, x0, x1, nI_e0, nI_eq, e0, e5, shl1, Option.bind_some, Option.bind_none, if_true, if_false, zr0, zr1, one11, one01, one0, one1, Option.toList_some, Option.toList_none, List.cons_append, List.nil_append, Nat.reduceEqDiff, Nat.reduceAdd, not_false_eq_true, not_true_eq_false, and_true, true_and, and_false, false_and, or_true, true_or, or_false, false_or, and_self, or_self, Bool.false_eq_true]
    · rw [if_neg e0, if_neg e5] at hs
      simp (disch := omega) only [CX3_readsOf, SX3_readsOf, Gp hP, lep hP, ap1 hP, ap3 hP, ap4 hP, x0, x2, x3, nI_e0, nI_eq, e0, e5, shl1, fa_or, Option.bind_some, Option.bind_none, if_true, if_false, zr0, zr1, one11, one01, one0, one1, Option.toList_some, Option.toList_none, List.cons_append, List.nil_append, Nat.reduceEqDiff, Nat.reduceAdd, not_false_eq_true, not_true_eq_false, and_true, true_and, and_false, false_and, or_true, true_or, or_false, false_or, and_self, or_self, Bool.false_eq_true]
end PG3
