def mgC (c : Nat → Nat → Nat) (n j : Nat) : Nat → Nat → Nat := match fuA c n (2 * j + 1), fuA c n (2 * j + 2) with
  | some a, some b => mC c (ipl c n j) a b
  | _, _ => c
def mgs : Nat → Nat → (Nat → Nat → Nat) → Nat × Nat × (Nat → Nat → Nat)
  | 0, n, c => (0, n, c)
  | k + 1, n, c => match fstF (mmB c n) 0 (nif c n) with
    | none => (0, n, c)
    | some j => ((mgs k (n - 1) (mgC c n j)).1 + 1, (mgs k (n - 1) (mgC c n j)).2)
theorem mg_some {c : Nat → Nat → Nat} {n j : Nat} (h : fstF (mmB c n) 0 (nif c n) = some j) : j < nif c n ∧ ∃ a b, fuA c n (2 * j + 1) = some a ∧ fuA c n (2 * j + 2) = some b ∧ c a 0 ≠ 5 ∧ alk c a b = true ∧ c a 1 ≠ c (ipl c n j) 1 ∧ mgC c n j = mC c (ipl c n j) a b := by
  obtain ⟨-, h2, h3, -⟩ := fstF_some h
  obtain ⟨a, b, e1, e2, e3, e4, e5⟩ := mmB_iff.mp h3
  refine ⟨by omega, a, b, e1, e2, e3, e4, e5, ?_⟩
  unfold mgC
  rw [e1, e2]
theorem mgC_PV {n ou : Nat} {c : Nat → Nat → Nat} {ws : Nat → Nat} (hv : PV n c ws ou) {j : Nat} (h : fstF (mmB c n) 0 (nif c n) = some j) : PV (n - 1) (mgC c n j) ws ou := by
  obtain ⟨hj, a, b, e1, e2, e3, e4, e5, e6⟩ := mg_some h
  obtain ⟨o1, o2, o3⟩ := m_ord hv hj e1 e2
  rw [e6]
  exact (m_PV hv o1 o2 o3 e3 (by rw [← alk_eq e4]; exact e3)).1
theorem mgs_none {c : Nat → Nat → Nat} {k n : Nat} (h : fstF (mmB c n) 0 (nif c n) = none) : mgs k n c = (0, n, c) := by
  cases k with
  | zero => rfl
  | succ k => rw [mgs, h]
theorem mgs_some {c : Nat → Nat → Nat} {k n j : Nat} (h : fstF (mmB c n) 0 (nif c n) = some j) : mgs (k + 1) n c = ((mgs k (n - 1) (mgC c n j)).1 + 1, (mgs k (n - 1) (mgC c n j)).2) := by
  rw [mgs, h]
theorem mgs_PV {ou : Nat} {ws : Nat → Nat} : ∀ k n (c : Nat → Nat → Nat), PV n c ws ou → PV (mgs k n c).2.1 (mgs k n c).2.2 ws ou := by
  intro k
  induction k with
  | zero => intro n c hv; exact hv
  | succ k ih =>
    intro n c hv
    cases h : fstF (mmB c n) 0 (nif c n) with
    | none => rw [mgs_none h]; exact hv
    | some j => rw [mgs_some h]; exact ih _ _ (mgC_PV hv h)
section MERGEOP
variable {Lx : Nat} {J : Nat → Nat → Int64} {ou : Nat} {ws : Nat → Nat}
theorem l_merge6 : ∀ k r m n (c : Nat → Nat → Nat) (F A : Nat → Nat → Int32), n ≤ k → r + n ≤ 24 → PV n c ws ou → XP F A 12 n c ws ou → ∃ F' A', den mX6_merge 12 [some (.ref 0), some (.int (nI m)), some (.int (oI (fstF (mmB c n) 0 (nif c n)))), some (.int (nI r))] [] (mk Lx F A J) = some (some (.int (nI (m + (mgs k n c).1))), mk Lx F' A' J) ∧ XP F' A' 12 (mgs k n c).2.1 (mgs k n c).2.2 ws ou ∧ (∀ p, p ≠ 12 → F' p = F p) ∧ ∀ q, (∀ d, 1 ≤ d → d ≤ 6 → q ≠ 12 + d) → A' q = A q := by
  have m44 : ((-4 : Int32) = (-4)) ↔ True := by decide
  have last : ∀ k r m n (c : Nat → Nat → Nat) (F A : Nat → Nat → Int32), r ≤ 24 → XP F A 12 n c ws ou → fstF (mmB c n) 0 (nif c n) = none → ∃ F' A', den mX6_merge 12 [some (.ref 0), some (.int (nI m)), some (.int (oI (fstF (mmB c n) 0 (nif c n)))), some (.int (nI r))] [] (mk Lx F A J) = some (some (.int (nI (m + (mgs k n c).1))), mk Lx F' A' J) ∧ XP F' A' 12 (mgs k n c).2.1 (mgs k n c).2.2 ws ou ∧ (∀ p, p ≠ 12 → F' p = F p) ∧ ∀ q, (∀ d, 1 ≤ d → d ≤ 6 → q ≠ 12 + d) → A' q = A q := by
    intro k r m n c F A hr hX h
    rw [mgs_none h, h]
    refine ⟨F, A, ?_, hX, fun _ _ => rfl, fun _ _ => rfl⟩
    rw [hX6_merge_12]
    by_cases hlt : r < 24
    · simp (disch := omega) only [SX6_merge, nI_ltI, hlt, oI, m44, Nat.add_zero, Option.bind_some, Option.bind_none, if_true, if_false, zr0, zr1, one11, one01, one0, one1, Option.toList_some, Option.toList_none, List.cons_append, List.nil_append, Nat.reduceEqDiff, Nat.reduceAdd, not_false_eq_true, not_true_eq_false, and_true, true_and, and_false, false_and, or_true, true_or, or_false, false_or, and_self, or_self, Bool.false_eq_true]
    · simp (disch := omega) only [SX6_merge, nI_ltI, hlt, oI, m44, Nat.add_zero, Option.bind_some, Option.bind_none, if_true, if_false, zr0, zr1, one11, one01, one0, one1, Option.toList_some, Option.toList_none, List.cons_append, List.nil_append, Nat.reduceEqDiff, Nat.reduceAdd, not_false_eq_true, not_true_eq_false, and_true, true_and, and_false, false_and, or_true, true_or, or_false, false_or, and_self, or_self, Bool.false_eq_true]
  intro k
  induction k with
  | zero =>
    intro r m n c F A hk hr hv hX
    have e : n = 0 := by omega
    subst e
    exact last 0 r m 0 c F A (by omega) hX rfl
  | succ k ih =>
    intro r m n c F A hk hr hv hX
    cases h : fstF (mmB c n) 0 (nif c n) with
    | none =>
      rw [← h]
      exact last (k + 1) r m n c F A (by omega) hX h
    | some j =>
      obtain ⟨hj, a, b, e1, e2, e3, e4, e5, e6⟩ := mg_some h
      have hn6 := hv.2.1
      have pv := mgC_PV hv h
      obtain ⟨A1, d1, d2, d3⟩ := c_mergeAhead (Lx := Lx) (J := J) isP_12 hX hv hj e1 e2 e3 e4
      rw [← e6] at d2
      obtain ⟨o1, o2, o3⟩ := m_ord hv hj e1 e2
      obtain ⟨F2, A2, i1, i2, i3, i4⟩ := ih (r + 1) (m + 1) (n - 1) (mgC c n j) _ A1 (by omega) (by omega) pv d2
      have f := c_firstToMerge (Lx := Lx) (J := J) isP_12 d2 pv
      rw [mgs_some h]
      refine ⟨F2, A2, ?_, i2, fun p hp => by rw [i3 p hp, up_ne _ _ hp], fun q hq => by rw [i4 q hq, d3 q hq]⟩
      have n4 : ¬ nI j = (-4) := nI_m4 (by omega)
      have hlt : r < 24 := by omega
      rw [show m + 1 + (mgs k (n - 1) (mgC c n j)).1 = m + ((mgs k (n - 1) (mgC c n j)).1 + 1) by omega] at i1
      rw [hX6_merge_12]
      simp (disch := omega) only [SX6_merge, G0, Op isP_12, nI_ltI, hlt, oI, n4, d1, f, nI_add, Option.bind_some, Option.bind_none, if_true, if_false, zr0, zr1, one11, one01, one0, one1, Option.toList_some, Option.toList_none, List.cons_append, List.nil_append, Nat.reduceEqDiff, Nat.reduceAdd, not_false_eq_true, not_true_eq_false, and_true, true_and, and_false, false_and, or_true, true_or, or_false, false_or, and_self, or_self, Bool.false_eq_true]
      exact i1
theorem l_once8 {n : Nat} {c : Nat → Nat → Nat} {F A : Nat → Nat → Int32} (hM : M0 (A 57) n c ws ou) (hv : PV n c ws ou) : ∀ K j, j + K = nif c n → (fstF (mmB c n) j K = none → den mX7_mergesOnce 9 [some (.ref 56), some (.int (nI 0)), some (.int (nI (nif c n))), some (.int (nI j))] [] (mk Lx F A J) = some (some (.int (nI 0)), mk Lx F A J)) ∧ ∀ i, fstF (mmB c n) j K = some i → ∃ A', den mX7_mergesOnce 9 [some (.ref 56), some (.int (nI 0)), some (.int (nI (nif c n))), some (.int (nI j))] [] (mk Lx F A J) = some (some (.int (nI 1)), mk Lx F A' J) ∧ M0 (A' 57) (n - 1) (mgC c n i) ws ou ∧ ∀ q, q ≠ 57 → A' q = A q := by
  have hn6 := hv.2.1
  intro K
  induction K with
  | zero =>
    intro j hj
    have hlt : ¬ j < nif c n := by omega
    refine ⟨fun _ => ?_, (fun i hi => by rw [fstF] at hi; cases hi)⟩
    rw [hX7_mergesOnce_9]
    simp (disch := omega) only [SX7_mergesOnce, nI_ltI, hlt, Option.bind_some, Option.bind_none, if_true, if_false, zr0, zr1, one11, one01, one0, one1, Option.toList_some, Option.toList_none, List.cons_append, List.nil_append, Nat.reduceEqDiff, Nat.reduceAdd, not_false_eq_true, not_true_eq_false, and_true, true_and, and_false, false_and, or_true, true_or, or_false, false_or, and_self, or_self, Bool.false_eq_true]
  | succ K ih =>
    intro j hj
    have hlt : j < nif c n := by omega
    obtain ⟨ih1, ih2⟩ := ih (j + 1) (by omega)
    rw [fstF]
    cases hm : mmB c n j with
    | true =>
      refine ⟨(fun h => by cases h), fun i hi => ?_⟩
      have hij : j = i := by simpa using hi
      subst hij
      obtain ⟨a, b, e1, e2, e3, e4, e5⟩ := mmB_iff.mp hm
      obtain ⟨A', g1, g2, g3⟩ := c_isMergedY (Lx := Lx) (F := F) (J := J) hM hv hlt e1 e2 e3 e4 e5
      have e6 : mgC c n j = mC c (ipl c n j) a b := by
        unfold mgC
        rw [e1, e2]
      rw [← e6] at g2
      refine ⟨A', ?_, g2, g3⟩
      rw [hX7_mergesOnce_9]
      by_cases h2 : j + 1 < nif c n
      · simp (disch := omega) only [SX7_mergesOnce, O56, nI_ltI, hlt, g1, nI_add, hX7_mergesOnce_9, h2, Option.bind_some, Option.bind_none, if_true, if_false, zr0, zr1, one11, one01, one0, one1, Option.toList_some, Option.toList_none, List.cons_append, List.nil_append, Nat.reduceEqDiff, Nat.reduceAdd, not_false_eq_true, not_true_eq_false, and_true, true_and, and_false, false_and, or_true, true_or, or_false, false_or, and_self, or_self, Bool.false_eq_true]
      · simp (disch := omega) only [SX7_mergesOnce, O56, nI_ltI, hlt, g1, nI_add, hX7_mergesOnce_9, h2, Option.bind_some, Option.bind_none, if_true, if_false, zr0, zr1, one11, one01, one0, one1, Option.toList_some, Option.toList_none, List.cons_append, List.nil_append, Nat.reduceEqDiff, Nat.reduceAdd, not_false_eq_true, not_true_eq_false, and_true, true_and, and_false, false_and, or_true, true_or, or_false, false_or, and_self, or_self, Bool.false_eq_true]
    | false =>
      have g := c_isMergedN (Lx := Lx) (F := F) (J := J) hM hv hlt hm
      rw [if_neg (by decide)]
      refine ⟨fun h => ?_, fun i hi => ?_⟩
      · have := ih1 h
        rw [hX7_mergesOnce_9]
        simp (disch := omega) only [SX7_mergesOnce, O56, nI_ltI, hlt, g, nI_add, this, Option.bind_some, Option.bind_none, if_true, if_false, zr0, zr1, one11, one01, one0, one1, Option.toList_some, Option.toList_none, List.cons_append, List.nil_append, Nat.reduceEqDiff, Nat.reduceAdd, not_false_eq_true, not_true_eq_false, and_true, true_and, and_false, false_and, or_true, true_or, or_false, false_or, and_self, or_self, Bool.false_eq_true]
      · obtain ⟨A', g1, g2, g3⟩ := ih2 i hi
        refine ⟨A', ?_, g2, g3⟩
        rw [hX7_mergesOnce_9]
        simp (disch := omega) only [SX7_mergesOnce, O56, nI_ltI, hlt, g, nI_add, g1, Option.bind_some, Option.bind_none, if_true, if_false, zr0, zr1, one11, one01, one0, one1, Option.toList_some, Option.toList_none, List.cons_append, List.nil_append, Nat.reduceEqDiff, Nat.reduceAdd, not_false_eq_true, not_true_eq_false, and_true, true_and, and_false, false_and, or_true, true_or, or_false, false_or, and_self, or_self, Bool.false_eq_true]
theorem l_merge7 {F : Nat → Nat → Int32} : ∀ k m n (c : Nat → Nat → Nat) (A : Nat → Nat → Int32), n ≤ k → PV n c ws ou → M0 (A 57) n c ws ou → ∃ A', den mX7_merge 2 [some (.ref 56), some (.int (nI m))] [] (mk Lx F A J) = some (some (.int (nI (m + (mgs k n c).1))), mk Lx F A' J) ∧ M0 (A' 57) (mgs k n c).2.1 (mgs k n c).2.2 ws ou ∧ ∀ q, q ≠ 57 → A' q = A q := by
  have last : ∀ k m n (c : Nat → Nat → Nat) (A : Nat → Nat → Int32), PV n c ws ou → M0 (A 57) n c ws ou → fstF (mmB c n) 0 (nif c n) = none → ∃ A', den mX7_merge 2 [some (.ref 56), some (.int (nI m))] [] (mk Lx F A J) = some (some (.int (nI (m + (mgs k n c).1))), mk Lx F A' J) ∧ M0 (A' 57) (mgs k n c).2.1 (mgs k n c).2.2 ws ou ∧ ∀ q, q ≠ 57 → A' q = A q := by
    intro k m n c A hv hM h
    rw [mgs_none h]
    have e := (l_once8 (Lx := Lx) (F := F) (J := J) hM hv (nif c n) 0 (by omega)).1 h
    refine ⟨A, ?_, hM, fun _ _ => rfl⟩
    rw [hX7_merge_2]
    simp (disch := omega) only [SX7_merge, CX7_mergesOnce, SX7_mergesOnce, O56, c_ifs hM hv, e, Nat.add_zero, Option.bind_some, Option.bind_none, if_true, if_false, zr0, zr1, one11, one01, one0, one1, Option.toList_some, Option.toList_none, List.cons_append, List.nil_append, Nat.reduceEqDiff, Nat.reduceAdd, not_false_eq_true, not_true_eq_false, and_true, true_and, and_false, false_and, or_true, true_or, or_false, false_or, and_self, or_self, Bool.false_eq_true]
  intro k
  induction k with
  | zero =>
    intro m n c A hk hv hM
    have e : n = 0 := by omega
    subst e
    exact last 0 m 0 c A hv hM rfl
  | succ k ih =>
    intro m n c A hk hv hM
    cases h : fstF (mmB c n) 0 (nif c n) with
    | none => exact last (k + 1) m n c A hv hM h
    | some j =>
      obtain ⟨hj, a, b, e1, e2, e3, e4, e5, e6⟩ := mg_some h
      obtain ⟨o1, o2, o3⟩ := m_ord hv hj e1 e2
      obtain ⟨A1, g1, g2, g3⟩ := (l_once8 (Lx := Lx) (F := F) (J := J) hM hv (nif c n) 0 (by omega)).2 j h
      obtain ⟨A2, i1, i2, i3⟩ := ih (m + 1) (n - 1) (mgC c n j) A1 (by omega) (mgC_PV hv h) g2
      rw [mgs_some h]
      refine ⟨A2, ?_, i2, fun q hq => by rw [i3 q hq, g3 q hq]⟩
      rw [show m + 1 + (mgs k (n - 1) (mgC c n j)).1 = m + ((mgs k (n - 1) (mgC c n j)).1 + 1) by omega] at i1
      rw [hX7_merge_2]
      simp (disch := omega) only [SX7_merge, CX7_mergesOnce, SX7_mergesOnce, O56, c_ifs hM hv, g1, nI_add, i1, Option.bind_some, Option.bind_none, if_true, if_false, zr0, zr1, one11, one01, one0, one1, Option.toList_some, Option.toList_none, List.cons_append, List.nil_append, Nat.reduceEqDiff, Nat.reduceAdd, not_false_eq_true, not_true_eq_false, and_true, true_and, and_false, false_and, or_true, true_or, or_false, false_or, and_self, or_self, Bool.false_eq_true]
theorem op_merge {σ : dS} {xs : Nat → Int32} (h : Iv Lx xs σ) : okI Lx xs mX6_merge mX7_merge [] σ := by
  obtain ⟨F, A, J, rfl, hx, hI⟩ := h
  obtain ⟨hT, hP, ⟨hI0, hI1⟩, hR, ⟨hS0, hS1, hS2, hS3⟩, hf, hto⟩ := id hI
  obtain ⟨n, c, ws, ou, hv, hX, hM⟩ := hP
  have hn := hv.1
  obtain ⟨F1, A1, e1, e2, e3, e4⟩ := l_merge6 (Lx := Lx) (J := J) 24 0 0 n c F A hn (by omega) hv hX
  have h57 : A1 57 = A 57 := e4 57 (fun d _ _ => by omega)
  have f := c_firstToMerge (Lx := Lx) (J := J) isP_12 hX hv
  obtain ⟨A3, i2, i3, i4⟩ := l_merge7 (Lx := Lx) (J := J) (F := F1) 24 0 n c A1 hn hv (by rw [h57]; exact hM)
  rw [Nat.zero_add] at i2 e1
  refine ⟨nI (mgs 24 n c).1, mk Lx F1 A1 J, mk Lx F1 A3 J, ?_, ?_, F1, A3, J, rfl, ?_, ?_⟩
  · simp (disch := omega) only [CX6_merge, SX6_merge, G0, Op isP_12, f, e1, Option.bind_some, Option.bind_none, if_true, if_false, zr0, zr1, one11, one01, one0, one1, Option.toList_some, Option.toList_none, List.cons_append, List.nil_append, Nat.reduceEqDiff, Nat.reduceAdd, not_false_eq_true, not_true_eq_false, and_true, true_and, and_false, false_and, or_true, true_or, or_false, false_or, and_self, or_self, Bool.false_eq_true]
  · simp (disch := omega) only [CX7_merge, SX7_merge, i2, Option.bind_some, Option.bind_none, if_true, if_false, zr0, zr1, one11, one01, one0, one1, Option.toList_some, Option.toList_none, List.cons_append, List.nil_append, Nat.reduceEqDiff, Nat.reduceAdd, not_false_eq_true, not_true_eq_false, and_true, true_and, and_false, false_and, or_true, true_or, or_false, false_or, and_self, or_self, Bool.false_eq_true]
  · rw [i4 75 (by omega), e4 75 (fun d _ _ => by omega)]; exact hx
  · exact hI.frP e3 (fun q q1 q2 q3 q4 => by rw [i4 q q2, e4 q (fun d _ _ => by omega)]) ⟨(mgs 24 n c).2.1, (mgs 24 n c).2.2, ws, ou, mgs_PV 24 n c hv, e2.fr rfl (fun d _ _ => by rw [i4 _ (by omega)]), i3⟩
end MERGEOP
