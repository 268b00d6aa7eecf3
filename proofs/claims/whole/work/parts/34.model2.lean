section MG2
variable {Lx : Nat} {F A : Nat → Nat → Int32} {J : Nat → Nat → Int64} {n ou : Nat} {c : Nat → Nat → Nat} {ws : Nat → Nat}
theorem l_depthOfM (h : M0 (A 57) n c ws ou) (hv : PV n c ws ou) (g0 : Nat) : ∀ k d g, g ≤ 2 * nif c n → (g + 1) / 2 ≤ k → den mX7_depthOf 4 [some (.ref 56), some (.int (nI g0)), some (.int (nI d)), some (.int (nI g))] [] (mk Lx F A J) = some (some (.int (nI (d + dep c n k g))), mk Lx F A J) := by
  have hn6 := hv.2.1
  intro k
  induction k with
  | zero =>
    intro d g hg hk
    have hg0 : g = 0 := by omega
    subst hg0
    rw [hX7_depthOf_4]
    simp (disch := omega) only [SX7_depthOf, nI_g0, Nat.lt_irrefl, Option.bind_some, Option.bind_none, if_true, if_false, zr0, zr1, one11, one01, one0, one1, Option.toList_some, Option.toList_none, List.cons_append, List.nil_append, Nat.reduceEqDiff, Nat.reduceAdd, not_false_eq_true, not_true_eq_false, and_true, true_and, and_false, false_and, or_true, true_or, or_false, false_or, and_self, or_self, Bool.false_eq_true, dep, Nat.add_zero]
  | succ k ih =>
    intro d g hg hk
    rw [hX7_depthOf_4]
    by_cases hc : g = 0
    · subst hc
      simp (disch := omega) only [SX7_depthOf, nI_g0, Nat.lt_irrefl, Option.bind_some, Option.bind_none, if_true, if_false, zr0, zr1, one11, one01, one0, one1, Option.toList_some, Option.toList_none, List.cons_append, List.nil_append, Nat.reduceEqDiff, Nat.reduceAdd, not_false_eq_true, not_true_eq_false, and_true, true_and, and_false, false_and, or_true, true_or, or_false, false_or, and_self, or_self, Bool.false_eq_true, dep, Nat.add_zero]
    · have hp := par_lt hv (by omega) hg
      have hpos : 0 < g := by omega
      simp (disch := omega) only [SX7_depthOf, O56, nI_g0, hpos, hc, c_parentOfM h hv hg, Option.bind_some, Option.bind_none, if_true, if_false, zr0, zr1, one11, one01, one0, one1, Option.toList_some, Option.toList_none, List.cons_append, List.nil_append, Nat.reduceEqDiff, Nat.reduceAdd, not_false_eq_true, not_true_eq_false, and_true, true_and, and_false, false_and, or_true, true_or, or_false, false_or, and_self, or_self, Bool.false_eq_true, nI_add]
      rw [ih (d + 1) (par c n g) hp.2.2.1 (by omega), dep, if_neg hc, show d + 1 + dep c n k (par c n g) = d + (dep c n k (par c n g) + 1) by omega]
theorem c_depthOfM (h : M0 (A 57) n c ws ou) (hv : PV n c ws ou) {g : Nat} (hg : g ≤ 2 * nif c n) : dcall mX7_depthOf [.ref 56, .int (nI g)] (mk Lx F A J) = some (some (.int (nI (dep c n 6 g))), mk Lx F A J) := by
  have hn6 := hv.2.1
  simp only [CX7_depthOf, SX7_depthOf]
  rw [l_depthOfM h hv g 6 0 g hg (by omega), Nat.zero_add]
theorem l_isWithinM (h : M0 (A 57) n c ws ou) (hv : PV n c ws ou) (g0 : Nat) {hh : Nat} (hh2 : hh ≤ 12) : ∀ k g, g ≤ 2 * nif c n → (g + 1) / 2 ≤ k → den mX7_isWithin 2 [some (.ref 56), some (.int (nI g0)), some (.int (nI hh)), some (.int (nI g))] [] (mk Lx F A J) = some (some (.int (bI (wit c n k g hh = true))), mk Lx F A J) := by
  have hn6 := hv.2.1
  intro k
  induction k with
  | zero =>
    intro g hg hk
    have hg0 : g = 0 := by omega
    subst hg0
    rw [hX7_isWithin_2]
    by_cases e : 0 = hh
    · subst e
      simp (disch := omega) only [SX7_isWithin, Option.bind_some, Option.bind_none, if_true, if_false, zr0, zr1, one11, one01, one0, one1, Option.toList_some, Option.toList_none, List.cons_append, List.nil_append, Nat.reduceEqDiff, Nat.reduceAdd, not_false_eq_true, not_true_eq_false, and_true, true_and, and_false, false_and, or_true, true_or, or_false, false_or, and_self, or_self, Bool.false_eq_true, wit, beq_self_eq_true, bI]
    · have e2 : (0 == hh) = false := by simp [e]
      simp (disch := omega) only [SX7_isWithin, nI_eq, nI_g0, Nat.lt_irrefl, e, Option.bind_some, Option.bind_none, if_true, if_false, zr0, zr1, one11, one01, one0, one1, Option.toList_some, Option.toList_none, List.cons_append, List.nil_append, Nat.reduceEqDiff, Nat.reduceAdd, not_false_eq_true, not_true_eq_false, and_true, true_and, and_false, false_and, or_true, true_or, or_false, false_or, and_self, or_self, Bool.false_eq_true, wit, e2, Bool.false_eq_true, bI]
  | succ k ih =>
    intro g hg hk
    rw [hX7_isWithin_2]
    by_cases e : g = hh
    · subst e
      simp (disch := omega) only [SX7_isWithin, Option.bind_some, Option.bind_none, if_true, if_false, zr0, zr1, one11, one01, one0, one1, Option.toList_some, Option.toList_none, List.cons_append, List.nil_append, Nat.reduceEqDiff, Nat.reduceAdd, not_false_eq_true, not_true_eq_false, and_true, true_and, and_false, false_and, or_true, true_or, or_false, false_or, and_self, or_self, Bool.false_eq_true, wit, bI]
    · by_cases hc : g = 0
      · subst hc
        simp (disch := omega) only [SX7_isWithin, nI_g0, nI_eq, e, Nat.lt_irrefl, Option.bind_some, Option.bind_none, if_true, if_false, zr0, zr1, one11, one01, one0, one1, Option.toList_some, Option.toList_none, List.cons_append, List.nil_append, Nat.reduceEqDiff, Nat.reduceAdd, not_false_eq_true, not_true_eq_false, and_true, true_and, and_false, false_and, or_true, true_or, or_false, false_or, and_self, or_self, Bool.false_eq_true, wit, bI, Bool.false_eq_true]
      · have hp := par_lt hv (by omega) hg
        have hpos : 0 < g := by omega
        simp (disch := omega) only [SX7_isWithin, O56, nI_g0, nI_eq, e, hpos, hc, c_parentOfM h hv hg, Option.bind_some, Option.bind_none, if_true, if_false, zr0, zr1, one11, one01, one0, one1, Option.toList_some, Option.toList_none, List.cons_append, List.nil_append, Nat.reduceEqDiff, Nat.reduceAdd, not_false_eq_true, not_true_eq_false, and_true, true_and, and_false, false_and, or_true, true_or, or_false, false_or, and_self, or_self, Bool.false_eq_true, nI_add]
        rw [ih (par c n g) hp.2.2.1 (by omega), wit, if_neg e, if_neg hc]
theorem c_isWithinM (h : M0 (A 57) n c ws ou) (hv : PV n c ws ou) {g hh : Nat} (hg : g ≤ 2 * nif c n) (hh2 : hh ≤ 12) : dcall mX7_isWithin [.ref 56, .int (nI g), .int (nI hh)] (mk Lx F A J) = some (some (.int (bI (wit c n 6 g hh = true))), mk Lx F A J) := by
  have hn6 := hv.2.1
  simp only [CX7_isWithin, SX7_isWithin]
  exact l_isWithinM h hv g hh2 6 g hg (by omega)
theorem l_standUnder (h : M0 (A 57) n c ws ou) (hv : PV n c ws ou) {g : Nat} (hg : g ≤ 12) : ∀ k i u, i + k = n → den mX7_standUnder 4 [some (.ref 56), some (.int (nI g)), some (.int (nI u)), some (.int (nI i))] [] (mk Lx F A J) = some (some (.int (nI (u + sumF (fun i => if c i 4 = g then 1 else 0) i k))), mk Lx F A J) := by
  have hn := hv.1
  intro k
  induction k with
  | zero =>
    intro i u hi
    have : ¬ i < n := by omega
    rw [hX7_standUnder_4]
    simp (disch := omega) only [SX7_standUnder, G56, leN, a57, h.1, nI_ltI, this, Option.bind_some, Option.bind_none, if_true, if_false, zr0, zr1, one11, one01, one0, one1, Option.toList_some, Option.toList_none, List.cons_append, List.nil_append, Nat.reduceEqDiff, Nat.reduceAdd, not_false_eq_true, not_true_eq_false, and_true, true_and, and_false, false_and, or_true, true_or, or_false, false_or, and_self, or_self, Bool.false_eq_true, sumF, Nat.add_zero]
  | succ k ih =>
    intro i u hi
    have hlt : i < n := by omega
    have hb := hv.b hlt
    have h4 : A 57 (5 * i + 4) = nI (c i 4) := h.2.2.1 i hlt 4 (by omega)
    rw [hX7_standUnder_4]
    by_cases hc : c i 4 = g
    · simp (disch := omega) only [SX7_standUnder, G56, O56, leN, a57, h.1, nI_ltI, hlt, c_of, h4, nI_eq, hc, c_flag, one1, Option.bind_some, Option.bind_none, if_true, if_false, zr0, zr1, one11, one01, one0, one1, Option.toList_some, Option.toList_none, List.cons_append, List.nil_append, Nat.reduceEqDiff, Nat.reduceAdd, not_false_eq_true, not_true_eq_false, and_true, true_and, and_false, false_and, or_true, true_or, or_false, false_or, and_self, or_self, Bool.false_eq_true, nI_add, sumF]
      rw [ih (i + 1) (u + 1) (by omega), Nat.add_assoc]
    · simp (disch := omega) only [SX7_standUnder, G56, O56, leN, a57, h.1, nI_ltI, hlt, c_of, h4, nI_eq, hc, c_flag, one0, Option.bind_some, Option.bind_none, if_true, if_false, zr0, zr1, one11, one01, one0, one1, Option.toList_some, Option.toList_none, List.cons_append, List.nil_append, Nat.reduceEqDiff, Nat.reduceAdd, not_false_eq_true, not_true_eq_false, and_true, true_and, and_false, false_and, or_true, true_or, or_false, false_or, and_self, or_self, Bool.false_eq_true, nI_add, sumF]
      rw [ih (i + 1) (u + 0) (by omega)]
      simp
theorem c_standUnder (h : M0 (A 57) n c ws ou) (hv : PV n c ws ou) {g : Nat} (hg : g ≤ 12) : dcall mX7_standUnder [.ref 56, .int (nI g)] (mk Lx F A J) = some (some (.int (nI (sumF (fun i => if c i 4 = g then 1 else 0) 0 n))), mk Lx F A J) := by
  simp only [CX7_standUnder, SX7_standUnder]
  rw [l_standUnder h hv hg n 0 0 (by omega), Nat.zero_add]
theorem l_sumOf (h : M0 (A 57) n c ws ou) (hv : PV n c ws ou) {g m : Nat} (hg : g ≤ 12) (hm : m ≤ 1) : ∀ k i u, i + k = n → den mX7_sumOf 5 [some (.ref 56), some (.int (nI g)), some (.int (nI m)), some (.int (nI u)), some (.int (nI i))] [] (mk Lx F A J) = some (some (.int (nI (u + sumF (fun i => if c i 0 = g then (if m = 0 then c i 2 else 1) else 0) i k))), mk Lx F A J) := by
  have hn := hv.1
  intro k
  induction k with
  | zero =>
    intro i u hi
    have : ¬ i < n := by omega
    rw [hX7_sumOf_5]
    simp (disch := omega) only [SX7_sumOf, G56, leN, a57, h.1, nI_ltI, this, Option.bind_some, Option.bind_none, if_true, if_false, zr0, zr1, one11, one01, one0, one1, Option.toList_some, Option.toList_none, List.cons_append, List.nil_append, Nat.reduceEqDiff, Nat.reduceAdd, not_false_eq_true, not_true_eq_false, and_true, true_and, and_false, false_and, or_true, true_or, or_false, false_or, and_self, or_self, Bool.false_eq_true, sumF, Nat.add_zero]
  | succ k ih =>
    intro i u hi
    have hlt : i < n := by omega
    have hb := hv.b hlt
    have h0 : A 57 (5 * i + 0) = nI (c i 0) := h.2.2.1 i hlt 0 (by omega)
    have h2 : A 57 (5 * i + 2) = nI (c i 2) := h.2.2.1 i hlt 2 (by omega)
    rw [hX7_sumOf_5]
    by_cases hc : c i 0 = g
    · by_cases hm0 : m = 0
      · simp (disch := omega) only [SX7_sumOf, G56, O56, leN, a57, h.1, nI_ltI, hlt, c_of, h0, h2, nI_eq, nI_e0, hc, hm0, Option.bind_some, Option.bind_none, if_true, if_false, zr0, zr1, one11, one01, one0, one1, Option.toList_some, Option.toList_none, List.cons_append, List.nil_append, Nat.reduceEqDiff, Nat.reduceAdd, not_false_eq_true, not_true_eq_false, and_true, true_and, and_false, false_and, or_true, true_or, or_false, false_or, and_self, or_self, Bool.false_eq_true, nI_add, sumF]
        have := ih (i + 1) (u + c i 2) (by omega)
        rw [hm0] at this
        rw [this, Nat.add_assoc]
        simp [hm0]
      · simp (disch := omega) only [SX7_sumOf, G56, O56, leN, a57, h.1, nI_ltI, hlt, c_of, h0, h2, nI_eq, nI_e0, hc, hm0, Option.bind_some, Option.bind_none, if_true, if_false, zr0, zr1, one11, one01, one0, one1, Option.toList_some, Option.toList_none, List.cons_append, List.nil_append, Nat.reduceEqDiff, Nat.reduceAdd, not_false_eq_true, not_true_eq_false, and_true, true_and, and_false, false_and, or_true, true_or, or_false, false_or, and_self, or_self, Bool.false_eq_true, nI_add, sumF]
        rw [ih (i + 1) (u + 1) (by omega), Nat.add_assoc]
        simp [hm0]
    · simp (disch := omega) only [SX7_sumOf, G56, O56, leN, a57, h.1, nI_ltI, hlt, c_of, h0, nI_eq, hc, Option.bind_some, Option.bind_none, if_true, if_false, zr0, zr1, one11, one01, one0, one1, Option.toList_some, Option.toList_none, List.cons_append, List.nil_append, Nat.reduceEqDiff, Nat.reduceAdd, not_false_eq_true, not_true_eq_false, and_true, true_and, and_false, false_and, or_true, true_or, or_false, false_or, and_self, or_self, Bool.false_eq_true, nI_add, sumF]
      rw [ih (i + 1) u (by omega)]
      simp
theorem c_sumOf (h : M0 (A 57) n c ws ou) (hv : PV n c ws ou) {g m : Nat} (hg : g ≤ 12) (hm : m ≤ 1) : dcall mX7_sumOf [.ref 56, .int (nI g), .int (nI m)] (mk Lx F A J) = some (some (.int (nI (sumF (fun i => if c i 0 = g then (if m = 0 then c i 2 else 1) else 0) 0 n))), mk Lx F A J) := by
  simp only [CX7_sumOf, SX7_sumOf]
  rw [l_sumOf h hv hg hm n 0 0 (by omega), Nat.zero_add]
theorem l_deepest (h : M0 (A 57) n c ws ou) (hv : PV n c ws ou) : ∀ k g a (l3 : Option Value), g + k = 2 * nif c n + 1 → a ≤ 6 → den mX7_deepest 4 [some (.ref 56), some (.int (nI a)), some (.int (nI g)), l3] [] (mk Lx F A J) = some (some (.int (nI (maxF (dep c n 6) g k a))), mk Lx F A J) := by
  have hn6 := hv.2.1
  intro k
  induction k with
  | zero =>
    intro g a l3 hg ha
    have : 2 * nif c n < g := by omega
    rw [hX7_deepest_4]
    simp (disch := omega) only [SX7_deepest, O56, c_ifs h hv, nI_m, nI_ltI, this, Option.bind_some, Option.bind_none, if_true, if_false, zr0, zr1, one11, one01, one0, one1, Option.toList_some, Option.toList_none, List.cons_append, List.nil_append, Nat.reduceEqDiff, Nat.reduceAdd, not_false_eq_true, not_true_eq_false, and_true, true_and, and_false, false_and, or_true, true_or, or_false, false_or, and_self, or_self, Bool.false_eq_true, maxF]
  | succ k ih =>
    intro g a l3 hg ha
    have hlt : ¬ 2 * nif c n < g := by omega
    have hdl := dep_le c n 6 g
    have hg2 : g ≤ 2 * nif c n := by omega
    rw [hX7_deepest_4]
    by_cases e : a < dep c n 6 g
    · simp (disch := omega) only [SX7_deepest, O56, c_ifs h hv, nI_m, nI_ltI, hlt, c_depthOfM h hv hg2, e, Option.bind_some, Option.bind_none, if_true, if_false, zr0, zr1, one11, one01, one0, one1, Option.toList_some, Option.toList_none, List.cons_append, List.nil_append, Nat.reduceEqDiff, Nat.reduceAdd, not_false_eq_true, not_true_eq_false, and_true, true_and, and_false, false_and, or_true, true_or, or_false, false_or, and_self, or_self, Bool.false_eq_true, maxF, nI_add]
      exact ih (g + 1) _ _ (by omega) (by omega)
    · simp (disch := omega) only [SX7_deepest, O56, c_ifs h hv, nI_m, nI_ltI, hlt, c_depthOfM h hv hg2, e, Option.bind_some, Option.bind_none, if_true, if_false, zr0, zr1, one11, one01, one0, one1, Option.toList_some, Option.toList_none, List.cons_append, List.nil_append, Nat.reduceEqDiff, Nat.reduceAdd, not_false_eq_true, not_true_eq_false, and_true, true_and, and_false, false_and, or_true, true_or, or_false, false_or, and_self, or_self, Bool.false_eq_true, maxF, nI_add]
      exact ih (g + 1) _ _ (by omega) ha
theorem c_deepest (h : M0 (A 57) n c ws ou) (hv : PV n c ws ou) : dcall mX7_deepest [.ref 56] (mk Lx F A J) = some (some (.int (nI (maxF (dep c n 6) 0 (2 * nif c n + 1) 0))), mk Lx F A J) := by
  simp only [CX7_deepest, SX7_deepest]
  exact l_deepest h hv (2 * nif c n + 1) 0 0 none (by omega) (by omega)
theorem l_firstUnderM (h : M0 (A 57) n c ws ou) (hv : PV n c ws ou) {g : Nat} (hg : g ≤ 12) : ∀ k i, i + k = n → den mX7_firstUnder 2 [some (.ref 56), some (.int (nI g)), some (.int (nI i))] [] (mk Lx F A J) = some (some (.int (oI (fstF (fun i => c i 4 == g) i k))), mk Lx F A J) := by
  have hn := hv.1
  intro k
  induction k with
  | zero =>
    intro i hi
    have : ¬ i < n := by omega
    rw [hX7_firstUnder_2]
    simp (disch := omega) only [SX7_firstUnder, G56, leN, a57, h.1, nI_ltI, this, Option.bind_some, Option.bind_none, if_true, if_false, zr0, zr1, one11, one01, one0, one1, Option.toList_some, Option.toList_none, List.cons_append, List.nil_append, Nat.reduceEqDiff, Nat.reduceAdd, not_false_eq_true, not_true_eq_false, and_true, true_and, and_false, false_and, or_true, true_or, or_false, false_or, and_self, or_self, Bool.false_eq_true, fstF, oI]
  | succ k ih =>
    intro i hi
    have hlt : i < n := by omega
    have hb := hv.b hlt
    have h4 : A 57 (5 * i + 4) = nI (c i 4) := h.2.2.1 i hlt 4 (by omega)
    rw [hX7_firstUnder_2]
    by_cases hc : c i 4 = g
    · simp (disch := omega) only [SX7_firstUnder, G56, O56, leN, a57, h.1, nI_ltI, hlt, c_of, h4, nI_eq, hc, Option.bind_some, Option.bind_none, if_true, if_false, zr0, zr1, one11, one01, one0, one1, Option.toList_some, Option.toList_none, List.cons_append, List.nil_append, Nat.reduceEqDiff, Nat.reduceAdd, not_false_eq_true, not_true_eq_false, and_true, true_and, and_false, false_and, or_true, true_or, or_false, false_or, and_self, or_self, Bool.false_eq_true, nI_add, fstF, beq_self_eq_true, oI]
    · have hc2 : (c i 4 == g) = false := by simp [hc]
      simp (disch := omega) only [SX7_firstUnder, G56, O56, leN, a57, h.1, nI_ltI, hlt, c_of, h4, nI_eq, hc, Option.bind_some, Option.bind_none, if_true, if_false, zr0, zr1, one11, one01, one0, one1, Option.toList_some, Option.toList_none, List.cons_append, List.nil_append, Nat.reduceEqDiff, Nat.reduceAdd, not_false_eq_true, not_true_eq_false, and_true, true_and, and_false, false_and, or_true, true_or, or_false, false_or, and_self, or_self, Bool.false_eq_true, nI_add, fstF, hc2, Bool.false_eq_true]
      exact ih (i + 1) (by omega)
theorem c_firstUnderM (h : M0 (A 57) n c ws ou) (hv : PV n c ws ou) {g : Nat} (hg : g ≤ 12) : dcall mX7_firstUnder [.ref 56, .int (nI g)] (mk Lx F A J) = some (some (.int (oI (fstF (fun i => c i 4 == g) 0 n))), mk Lx F A J) := by
  simp only [CX7_firstUnder, SX7_firstUnder]
  exact l_firstUnderM h hv hg n 0 (by omega)
theorem c_becomes {k : Nat} (hk : k < 128) (v : Int32) : dcall mX7_becomes [.ref 56, .int (nI k), .int v] (mk Lx F A J) = some (some (.int (A 57 k)), mk Lx F (up A 57 (up (A 57) k v)) J) := by
  simp (disch := omega) only [CX7_becomes, SX7_becomes, G56, leN, a57, w57, Option.bind_some, Option.bind_none, if_true, if_false, zr0, zr1, one11, one01, one0, one1, Option.toList_some, Option.toList_none, List.cons_append, List.nil_append, Nat.reduceEqDiff, Nat.reduceAdd, not_false_eq_true, not_true_eq_false, and_true, true_and, and_false, false_and, or_true, true_or, or_false, false_or, and_self, or_self, Bool.false_eq_true]
theorem c_costOf {k : Nat} (hk : k ≤ 5) (σ : dS) : dcall mX7_costOf [.int (nI k)] σ = some (some (.int (nI (if k = 4 then 4 else 1))), σ) := by
  by_cases e : k = 4
  · simp (disch := omega) only [CX7_costOf, SX7_costOf, nI_eq, e, Option.bind_some, Option.bind_none, if_true, if_false, zr0, zr1, one11, one01, one0, one1, Option.toList_some, Option.toList_none, List.cons_append, List.nil_append, Nat.reduceEqDiff, Nat.reduceAdd, not_false_eq_true, not_true_eq_false, and_true, true_and, and_false, false_and, or_true, true_or, or_false, false_or, and_self, or_self, Bool.false_eq_true]
  · simp (disch := omega) only [CX7_costOf, SX7_costOf, nI_eq, e, Option.bind_some, Option.bind_none, if_true, if_false, zr0, zr1, one11, one01, one0, one1, Option.toList_some, Option.toList_none, List.cons_append, List.nil_append, Nat.reduceEqDiff, Nat.reduceAdd, not_false_eq_true, not_true_eq_false, and_true, true_and, and_false, false_and, or_true, true_or, or_false, false_or, and_self, or_self, Bool.false_eq_true]
end MG2
