/-! the reference: its reads -/
section MG
variable {Lx : Nat} {F A : Nat → Nat → Int32} {J : Nat → Nat → Int64} {n ou : Nat} {c : Nat → Nat → Nat} {ws : Nat → Nat}
theorem c_in (v lo hi : Int64) (σ : dS) : dcall mX7_in [.long v, .long lo, .long hi] σ = some (some (.int (bI (lo ≤ v ∧ v ≤ hi))), σ) := by
  simp only [CX7_in, SX7_in, lg_lt, lg_gt, Option.bind_some, Option.bind_none, if_true, if_false, zr0, zr1, one11, one01, one0, one1, Option.toList_some, Option.toList_none, List.cons_append, List.nil_append, Nat.reduceEqDiff, Nat.reduceAdd, not_false_eq_true, not_true_eq_false, and_true, true_and, and_false, false_and, or_true, true_or, or_false, false_or, and_self, or_self, Bool.false_eq_true]
  by_cases h1 : v < lo
  · have : ¬ (lo ≤ v) := Int64.not_le.mpr h1
    simp only [h1, this, Option.bind_some, Option.bind_none, if_true, if_false, zr0, zr1, one11, one01, one0, one1, Option.toList_some, Option.toList_none, List.cons_append, List.nil_append, Nat.reduceEqDiff, Nat.reduceAdd, not_false_eq_true, not_true_eq_false, and_true, true_and, and_false, false_and, or_true, true_or, or_false, false_or, and_self, or_self, Bool.false_eq_true, bI]
  · have g1 : lo ≤ v := Int64.not_lt.mp h1
    by_cases h2 : hi < v
    · have : ¬ (v ≤ hi) := Int64.not_le.mpr h2
      simp only [h1, h2, g1, this, Option.bind_some, Option.bind_none, if_true, if_false, zr0, zr1, one11, one01, one0, one1, Option.toList_some, Option.toList_none, List.cons_append, List.nil_append, Nat.reduceEqDiff, Nat.reduceAdd, not_false_eq_true, not_true_eq_false, and_true, true_and, and_false, false_and, or_true, true_or, or_false, false_or, and_self, or_self, Bool.false_eq_true, bI]
    · have g2 : v ≤ hi := Int64.not_lt.mp h2
      simp only [h1, h2, g1, g2, Option.bind_some, Option.bind_none, if_true, if_false, zr0, zr1, one11, one01, one0, one1, Option.toList_some, Option.toList_none, List.cons_append, List.nil_append, Nat.reduceEqDiff, Nat.reduceAdd, not_false_eq_true, not_true_eq_false, and_true, true_and, and_false, false_and, or_true, true_or, or_false, false_or, and_self, or_self, Bool.false_eq_true, bI]
theorem ge0 (x : Int32) : lN 0 ≤ x.toInt64 ↔ ¬ x < 0 := by
  rw [w64N (by decide), w64le, n0, Int32.not_lt]
theorem c_flag (b : Int32) (σ : dS) : dcall mX7_flag [.int b] σ = some (some (.int (if b = 0 then nI 0 else nI 1)), σ) := by
  simp only [CX7_flag, SX7_flag]
  split <;> rfl
theorem flag_bI (p : Prop) [Decidable p] : (if bI p = 0 then nI 0 else nI 1) = bI p := by
  by_cases h : p
  · rw [bI_t h]; decide
  · rw [bI_f h]; decide
theorem c_of {i w : Nat} (h : 5 * i + w < 128) : dcall mX7_of [.ref 56, .int (nI i), .int (nI w)] (mk Lx F A J) = some (some (.int (A 57 (5 * i + w))), mk Lx F A J) := by
  simp (disch := omega) only [CX7_of, SX7_of, G56, leN, nI_m, nI_add, a57, Option.bind_some, Option.bind_none, if_true, if_false, zr0, zr1, one11, one01, one0, one1, Option.toList_some, Option.toList_none, List.cons_append, List.nil_append, Nat.reduceEqDiff, Nat.reduceAdd, not_false_eq_true, not_true_eq_false, and_true, true_and, and_false, false_and, or_true, true_or, or_false, false_or, and_self, or_self, Bool.false_eq_true]
theorem c_isCode (h : M0 (A 57) n c ws ou) (hn : n ≤ 24) (i : Int32) : dcall mX7_isCode [.ref 56, .int i] (mk Lx F A J) = some (some (.int (bI (¬ i < 0 ∧ i < nI n))), mk Lx F A J) := by
  simp (disch := omega) only [CX7_isCode, SX7_isCode, G56, leN, a57, h.1, c_in, ge0, w64le, bI_z, Option.bind_some, Option.bind_none, if_true, if_false, zr0, zr1, one11, one01, one0, one1, Option.toList_some, Option.toList_none, List.cons_append, List.nil_append, Nat.reduceEqDiff, Nat.reduceAdd, not_false_eq_true, not_true_eq_false, and_true, true_and, and_false, false_and, or_true, true_or, or_false, false_or, and_self, or_self, Bool.false_eq_true]
  rw [bI_c (in_n (by omega))]
theorem l_ifs (h : M0 (A 57) n c ws ou) (hv : PV n c ws ou) : ∀ k i u, i + k = n → den mX7_ifs 4 [some (.ref 56), some (.int (nI u)), some (.int (nI i))] [] (mk Lx F A J) = some (some (.int (nI (u + sumF (fun i => if c i 0 = 5 then 1 else 0) i k))), mk Lx F A J) := by
  have hn := hv.1
  intro k
  induction k with
  | zero =>
    intro i u hi
    have : ¬ i < n := by omega
    rw [hX7_ifs_4]
    simp (disch := omega) only [SX7_ifs, G56, leN, a57, h.1, nI_ltI, this, Option.bind_some, Option.bind_none, if_true, if_false, zr0, zr1, one11, one01, one0, one1, Option.toList_some, Option.toList_none, List.cons_append, List.nil_append, Nat.reduceEqDiff, Nat.reduceAdd, not_false_eq_true, not_true_eq_false, and_true, true_and, and_false, false_and, or_true, true_or, or_false, false_or, and_self, or_self, Bool.false_eq_true, sumF, Nat.add_zero]
  | succ k ih =>
    intro i u hi
    have hlt : i < n := by omega
    have hb := hv.b hlt
    have h0 : A 57 (5 * i + 0) = nI (c i 0) := h.2.2.1 i hlt 0 (by omega)
    rw [hX7_ifs_4]
    by_cases hc : c i 0 = 5
    · simp (disch := omega) only [SX7_ifs, G56, O56, leN, a57, h.1, nI_ltI, hlt, c_of, h0, nI_eq, hc, c_flag, one1, Option.bind_some, Option.bind_none, if_true, if_false, zr0, zr1, one11, one01, one0, one1, Option.toList_some, Option.toList_none, List.cons_append, List.nil_append, Nat.reduceEqDiff, Nat.reduceAdd, not_false_eq_true, not_true_eq_false, and_true, true_and, and_false, false_and, or_true, true_or, or_false, false_or, and_self, or_self, Bool.false_eq_true, nI_add, sumF]
      rw [ih (i + 1) (u + 1) (by omega), Nat.add_assoc]
    · simp (disch := omega) only [SX7_ifs, G56, O56, leN, a57, h.1, nI_ltI, hlt, c_of, h0, nI_eq, hc, c_flag, one0, Option.bind_some, Option.bind_none, if_true, if_false, zr0, zr1, one11, one01, one0, one1, Option.toList_some, Option.toList_none, List.cons_append, List.nil_append, Nat.reduceEqDiff, Nat.reduceAdd, not_false_eq_true, not_true_eq_false, and_true, true_and, and_false, false_and, or_true, true_or, or_false, false_or, and_self, or_self, Bool.false_eq_true, nI_add, sumF]
      rw [ih (i + 1) (u + 0) (by omega)]
      simp
theorem c_ifs (h : M0 (A 57) n c ws ou) (hv : PV n c ws ou) : dcall mX7_ifs [.ref 56] (mk Lx F A J) = some (some (.int (nI (nif c n))), mk Lx F A J) := by
  simp only [CX7_ifs, SX7_ifs]
  rw [l_ifs h hv n 0 0 (by omega), Nat.zero_add, nif_sum]
theorem c_isIf (h : M0 (A 57) n c ws ou) (hv : PV n c ws ou) (j : Int32) : dcall mX7_isIf [.ref 56, .int j] (mk Lx F A J) = some (some (.int (bI (¬ j < 0 ∧ j < nI (nif c n)))), mk Lx F A J) := by
  have := hv.2.1
  simp (disch := omega) only [CX7_isIf, SX7_isIf, O56, c_ifs h hv, c_in, ge0, w64le, bI_z, Option.bind_some, Option.bind_none, if_true, if_false, zr0, zr1, one11, one01, one0, one1, Option.toList_some, Option.toList_none, List.cons_append, List.nil_append, Nat.reduceEqDiff, Nat.reduceAdd, not_false_eq_true, not_true_eq_false, and_true, true_and, and_false, false_and, or_true, true_or, or_false, false_or, and_self, or_self, Bool.false_eq_true]
  rw [bI_c (in_n (by omega))]
theorem c_isGuard (h : M0 (A 57) n c ws ou) (hv : PV n c ws ou) (g : Int32) : dcall mX7_isGuard [.ref 56, .int g] (mk Lx F A J) = some (some (.int (bI (¬ g < 0 ∧ g < nI (2 * nif c n + 1)))), mk Lx F A J) := by
  have := hv.2.1
  simp (disch := omega) only [CX7_isGuard, SX7_isGuard, O56, c_ifs h hv, c_in, ge0, nI_m, w64le, bI_z, Option.bind_some, Option.bind_none, if_true, if_false, zr0, zr1, one11, one01, one0, one1, Option.toList_some, Option.toList_none, List.cons_append, List.nil_append, Nat.reduceEqDiff, Nat.reduceAdd, not_false_eq_true, not_true_eq_false, and_true, true_and, and_false, false_and, or_true, true_or, or_false, false_or, and_self, or_self, Bool.false_eq_true]
  rw [bI_c (in_le (by omega))]
theorem c_isPart (w : Int32) (σ : dS) : dcall mX7_isPart [.int w] σ = some (some (.int (bI (¬ w < 0 ∧ w ≤ nI 1))), σ) := by
  simp only [CX7_isPart, SX7_isPart, c_in, ge0, w64N (show 1 < 2 ^ 31 by decide), w64le, bI_z, Option.bind_some, Option.bind_none, if_true, if_false, zr0, zr1, one11, one01, one0, one1, Option.toList_some, Option.toList_none, List.cons_append, List.nil_append, Nat.reduceEqDiff, Nat.reduceAdd, not_false_eq_true, not_true_eq_false, and_true, true_and, and_false, false_and, or_true, true_or, or_false, false_or, and_self, or_self, Bool.false_eq_true]
theorem l_codeOf (h : M0 (A 57) n c ws ou) (hv : PV n c ws ou) (j : Nat) (hj : j < nif c n) : ∀ k i, i + k = n → nif c i ≤ j → den mX7_codeOf 4 [some (.ref 56), some (.int (nI j)), some (.int (nI (j - nif c i))), some (.int (nI i))] [] (mk Lx F A J) = some (some (.int (nI (ipl c n j))), mk Lx F A J) := by
  have hn := hv.1
  have hn6 := hv.2.1
  intro k
  induction k with
  | zero =>
    intro i hi hle
    have : i = n := by omega
    subst this
    omega
  | succ k ih =>
    intro i hi hle
    have hlt : i < n := by omega
    have hb := hv.b hlt
    have h0 : A 57 (5 * i + 0) = nI (c i 0) := h.2.2.1 i hlt 0 (by omega)
    rw [hX7_codeOf_4]
    by_cases hc : c i 0 = 5
    · by_cases e : j - nif c i = 0
      · have hj2 : nif c i = j := by omega
        have hi2 : ipl c n j = i := by rw [← hj2]; exact ipl_at hlt hc
        simp (disch := omega) only [SX7_codeOf, G56, O56, leN, a57, h.1, nI_ltI, hlt, c_of, h0, nI_eq, hc, nI_e0, e, Option.bind_some, Option.bind_none, if_true, if_false, zr0, zr1, one11, one01, one0, one1, Option.toList_some, Option.toList_none, List.cons_append, List.nil_append, Nat.reduceEqDiff, Nat.reduceAdd, not_false_eq_true, not_true_eq_false, and_true, true_and, and_false, false_and, or_true, true_or, or_false, false_or, and_self, or_self, Bool.false_eq_true, hi2]
      · have e1 : nif c (i + 1) = nif c i + 1 := by rw [nif, if_pos hc]
        have e3 : nI (j - nif c i) + (-1) = nI (j - nif c (i + 1)) := by
          rw [e1, show j - nif c i = (j - (nif c i + 1)) + 1 by omega]
          exact pk_m1 _
        simp (disch := omega) only [SX7_codeOf, G56, O56, leN, a57, h.1, nI_ltI, hlt, c_of, h0, nI_eq, hc, nI_e0, e, Option.bind_some, Option.bind_none, if_true, if_false, zr0, zr1, one11, one01, one0, one1, Option.toList_some, Option.toList_none, List.cons_append, List.nil_append, Nat.reduceEqDiff, Nat.reduceAdd, not_false_eq_true, not_true_eq_false, and_true, true_and, and_false, false_and, or_true, true_or, or_false, false_or, and_self, or_self, Bool.false_eq_true, nI_add, e3]
        exact ih (i + 1) (by omega) (by omega)
    · have e1 : nif c (i + 1) = nif c i := by rw [nif, if_neg hc]; rfl
      simp (disch := omega) only [SX7_codeOf, G56, O56, leN, a57, h.1, nI_ltI, hlt, c_of, h0, nI_eq, hc, Option.bind_some, Option.bind_none, if_true, if_false, zr0, zr1, one11, one01, one0, one1, Option.toList_some, Option.toList_none, List.cons_append, List.nil_append, Nat.reduceEqDiff, Nat.reduceAdd, not_false_eq_true, not_true_eq_false, and_true, true_and, and_false, false_and, or_true, true_or, or_false, false_or, and_self, or_self, Bool.false_eq_true, nI_add]
      rw [← e1]
      exact ih (i + 1) (by omega) (by omega)
theorem c_codeOf (h : M0 (A 57) n c ws ou) (hv : PV n c ws ou) {j : Nat} (hj : j < nif c n) : dcall mX7_codeOf [.ref 56, .int (nI j)] (mk Lx F A J) = some (some (.int (nI (ipl c n j))), mk Lx F A J) := by
  simp only [CX7_codeOf, SX7_codeOf]
  exact l_codeOf h hv j hj n 0 (by omega) (Nat.zero_le _)
theorem l_ifOfM (h : M0 (A 57) n c ws ou) (hv : PV n c ws ou) {i0 : Nat} (hi0 : i0 ≤ n) : ∀ k i u, i + k = i0 → den mX7_ifOf 4 [some (.ref 56), some (.int (nI i0)), some (.int (nI u)), some (.int (nI i))] [] (mk Lx F A J) = some (some (.int (nI (u + sumF (fun i => if c i 0 = 5 then 1 else 0) i k))), mk Lx F A J) := by
  have hn := hv.1
  intro k
  induction k with
  | zero =>
    intro i u hi
    have : ¬ i < i0 := by omega
    rw [hX7_ifOf_4]
    simp (disch := omega) only [SX7_ifOf, nI_ltI, this, Option.bind_some, Option.bind_none, if_true, if_false, zr0, zr1, one11, one01, one0, one1, Option.toList_some, Option.toList_none, List.cons_append, List.nil_append, Nat.reduceEqDiff, Nat.reduceAdd, not_false_eq_true, not_true_eq_false, and_true, true_and, and_false, false_and, or_true, true_or, or_false, false_or, and_self, or_self, Bool.false_eq_true, sumF, Nat.add_zero]
  | succ k ih =>
    intro i u hi
    have hlt : i < n := by omega
    have hlt2 : i < i0 := by omega
    have hb := hv.b hlt
    have h0 : A 57 (5 * i + 0) = nI (c i 0) := h.2.2.1 i hlt 0 (by omega)
    rw [hX7_ifOf_4]
    by_cases hc : c i 0 = 5
    · simp (disch := omega) only [SX7_ifOf, O56, nI_ltI, hlt2, c_of, h0, nI_eq, hc, c_flag, one1, Option.bind_some, Option.bind_none, if_true, if_false, zr0, zr1, one11, one01, one0, one1, Option.toList_some, Option.toList_none, List.cons_append, List.nil_append, Nat.reduceEqDiff, Nat.reduceAdd, not_false_eq_true, not_true_eq_false, and_true, true_and, and_false, false_and, or_true, true_or, or_false, false_or, and_self, or_self, Bool.false_eq_true, nI_add, sumF]
      rw [ih (i + 1) (u + 1) (by omega), Nat.add_assoc]
    · simp (disch := omega) only [SX7_ifOf, O56, nI_ltI, hlt2, c_of, h0, nI_eq, hc, c_flag, one0, Option.bind_some, Option.bind_none, if_true, if_false, zr0, zr1, one11, one01, one0, one1, Option.toList_some, Option.toList_none, List.cons_append, List.nil_append, Nat.reduceEqDiff, Nat.reduceAdd, not_false_eq_true, not_true_eq_false, and_true, true_and, and_false, false_and, or_true, true_or, or_false, false_or, and_self, or_self, Bool.false_eq_true, nI_add, sumF]
      rw [ih (i + 1) (u + 0) (by omega)]
      simp
theorem c_ifOfM (h : M0 (A 57) n c ws ou) (hv : PV n c ws ou) {i : Nat} (hi : i ≤ n) : dcall mX7_ifOf [.ref 56, .int (nI i)] (mk Lx F A J) = some (some (.int (nI (nif c i))), mk Lx F A J) := by
  simp only [CX7_ifOf, SX7_ifOf]
  rw [l_ifOfM h hv hi i 0 0 (by omega), Nat.zero_add, nif_sum]
theorem c_parentOfM (h : M0 (A 57) n c ws ou) (hv : PV n c ws ou) {g : Nat} (hg : g ≤ 2 * nif c n) : dcall mX7_parentOf [.ref 56, .int (nI g)] (mk Lx F A J) = some (some (.int (if g = 0 then (-4) else nI (par c n g))), mk Lx F A J) := by
  have hn := hv.1
  have hn6 := hv.2.1
  by_cases h0 : g = 0
  · subst h0
    simp only [CX7_parentOf, SX7_parentOf, n0, Option.bind_some, Option.bind_none, if_true, if_false, zr0, zr1, one11, one01, one0, one1, Option.toList_some, Option.toList_none, List.cons_append, List.nil_append, Nat.reduceEqDiff, Nat.reduceAdd, not_false_eq_true, not_true_eq_false, and_true, true_and, and_false, false_and, or_true, true_or, or_false, false_or, and_self, or_self, Bool.false_eq_true]
  · have hj : (g - 1) / 2 < nif c n := by omega
    have hp := par_lt hv (by omega) hg
    have h4 : A 57 (5 * ipl c n ((g - 1) / 2) + 4) = nI (par c n g) := h.2.2.1 _ hp.2.2.2 4 (by omega)
    simp (disch := omega) only [CX7_parentOf, SX7_parentOf, O56, nI_e0, h0, e2, nI_s, nI_d, c_codeOf h hv hj, c_of, h4, Option.bind_some, Option.bind_none, if_true, if_false, zr0, zr1, one11, one01, one0, one1, Option.toList_some, Option.toList_none, List.cons_append, List.nil_append, Nat.reduceEqDiff, Nat.reduceAdd, not_false_eq_true, not_true_eq_false, and_true, true_and, and_false, false_and, or_true, true_or, or_false, false_or, and_self, or_self, Bool.false_eq_true]
end MG
