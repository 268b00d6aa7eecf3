section MEANF
variable {Lx : Nat} {F A : Nat → Nat → Int32} {J : Nat → Nat → Int64} {n ou : Nat} {c : Nat → Nat → Nat} {ws : Nat → Nat}
theorem l_fm2 (hv : PV n c ws ou) : ∀ k j A (l3 l4 l5 l6 l7 l8 l9 : Option Value), j + k = nif c n → M0 (A 57) n c ws ou → (∀ q, q < j → A 65 q = zI (gu c n ws q)) → (∀ q, q < nif c n → A 63 q = zI (alK c n ws (ipl c n q))) → ∃ A', den mX7_findMeans 151 [some (.ref 56), some (.int (nI (nif c n))), some (.int (nI j)), l3, l4, l5, l6, l7, l8, l9] [] (mk Lx F A J) = some (none, mk Lx F A' J) ∧ (∀ q, q < nif c n → A' 65 q = zI (gu c n ws q)) ∧ ∀ q, q ≠ 65 → A' q = A q := by
  have hn6 := hv.2.1
  intro k
  induction k with
  | zero =>
    intro j A l3 l4 l5 l6 l7 l8 l9 hj h h1 h2
    have hlt : ¬ j < nif c n := by omega
    refine ⟨A, ?_, fun q hq => h1 q (by omega), fun q _ => rfl⟩
    rw [hX7_findMeans_151]
    simp (disch := omega) only [SX7_findMeans_0, SX7_findMeans_1, SX7_findMeans_2, SX7_findMeans_3, nI_ltI, hlt, Option.bind_some, Option.bind_none, if_true, if_false, zr0, zr1, one11, one01, one0, one1, Option.toList_some, Option.toList_none, List.cons_append, List.nil_append, Nat.reduceEqDiff, Nat.reduceAdd, not_false_eq_true, not_true_eq_false, and_true, true_and, and_false, false_and, or_true, true_or, or_false, false_or, and_self, or_self, Bool.false_eq_true]
  | succ k ih =>
    intro j A l3 l4 l5 l6 l7 l8 l9 hj h h1 h2
    have hlt : j < nif c n := by omega
    have hp := par_j hv hlt
    have hg := gu_eq hv hlt
    have ha := h2 j hlt
    have hpar := c_parentOfM (Lx := Lx) (F := F) (J := J) h hv (g := 2 * j + 1) (by omega)
    rw [if_neg (by omega)] at hpar
    obtain ⟨A', g1, g2, g3⟩ := ih (j + 1) (up A 65 (up (A 65) j (zI (gu c n ws j)))) (some (.int (nI (par c n (2 * j + 1))))) l4 l5 l6 l7 l8 l9 (by omega) (by rw [up_ne _ _ (by decide)]; exact h) (fun q hq => by
      rw [up_eq]
      by_cases e : q = j
      · rw [e, up_eq]
      · rw [up_ne _ _ e]; exact h1 q (by omega)) (fun q hq => by
      rw [up_ne _ _ (by decide)]; exact h2 q hq)
    refine ⟨A', ?_, g2, fun q hq => by rw [g3 q hq, up_ne _ _ hq]⟩
    rw [hX7_findMeans_151]
    cases hal : alK c n ws (ipl c n j) with
    | true =>
      rw [hal, Bool.true_or] at hg
      rw [hal, zIt] at ha
      rw [hg, zIt] at g1
      simp (disch := omega) only [SX7_findMeans_0, SX7_findMeans_1, SX7_findMeans_2, SX7_findMeans_3, G56, O56, nI_ltI, hlt, nI_m, nI_add, hpar, a63, ha, nI_e0, w65, narZ1, g1, Option.bind_some, Option.bind_none, if_true, if_false, zr0, zr1, one11, one01, one0, one1, Option.toList_some, Option.toList_none, List.cons_append, List.nil_append, Nat.reduceEqDiff, Nat.reduceAdd, not_false_eq_true, not_true_eq_false, and_true, true_and, and_false, false_and, or_true, true_or, or_false, false_or, and_self, or_self, Bool.false_eq_true]
    | false =>
      rw [hal, Bool.false_or] at hg
      rw [hal, zIf] at ha
      by_cases e0 : 0 < par c n (2 * j + 1)
      · have hq := h1 ((par c n (2 * j + 1) - 1) / 2) (by omega)
        rw [decide_eq_true e0, Bool.true_and] at hg
        cases hgu : gu c n ws ((par c n (2 * j + 1) - 1) / 2) with
        | true =>
          rw [hgu] at hg hq
          rw [hg, zIt] at g1
          simp (disch := omega) only [SX7_findMeans_0, SX7_findMeans_1, SX7_findMeans_2, SX7_findMeans_3, G56, O56, nI_ltI, hlt, nI_m, nI_add, hpar, a63, ha, nI_e0, nI_g0, e0, nI_s, two0, nI_d, a65, hq, zIt, w65, narZ1, g1, Option.bind_some, Option.bind_none, if_true, if_false, zr0, zr1, one11, one01, one0, one1, Option.toList_some, Option.toList_none, List.cons_append, List.nil_append, Nat.reduceEqDiff, Nat.reduceAdd, not_false_eq_true, not_true_eq_false, and_true, true_and, and_false, false_and, or_true, true_or, or_false, false_or, and_self, or_self, Bool.false_eq_true]
        | false =>
          rw [hgu] at hg hq
          rw [hg, zIf] at g1
          simp (disch := omega) only [SX7_findMeans_0, SX7_findMeans_1, SX7_findMeans_2, SX7_findMeans_3, G56, O56, nI_ltI, hlt, nI_m, nI_add, hpar, a63, ha, nI_e0, nI_g0, e0, nI_s, two0, nI_d, a65, hq, zIf, w65, narZ0, g1, Option.bind_some, Option.bind_none, if_true, if_false, zr0, zr1, one11, one01, one0, one1, Option.toList_some, Option.toList_none, List.cons_append, List.nil_append, Nat.reduceEqDiff, Nat.reduceAdd, not_false_eq_true, not_true_eq_false, and_true, true_and, and_false, false_and, or_true, true_or, or_false, false_or, and_self, or_self, Bool.false_eq_true]
      · rw [decide_eq_false e0, Bool.false_and] at hg
        rw [hg, zIf] at g1
        simp (disch := omega) only [SX7_findMeans_0, SX7_findMeans_1, SX7_findMeans_2, SX7_findMeans_3, G56, O56, nI_ltI, hlt, nI_m, nI_add, hpar, a63, ha, nI_e0, nI_g0, e0, w65, narZ0, g1, Option.bind_some, Option.bind_none, if_true, if_false, zr0, zr1, one11, one01, one0, one1, Option.toList_some, Option.toList_none, List.cons_append, List.nil_append, Nat.reduceEqDiff, Nat.reduceAdd, not_false_eq_true, not_true_eq_false, and_true, true_and, and_false, false_and, or_true, true_or, or_false, false_or, and_self, or_self, Bool.false_eq_true]
theorem m1lt : (nI 0 + (-1) < 0) ↔ True := by decide
theorem l_fm (hv : PV n c ws ou) : ∀ j A J (l3 l4 l5 l6 l7 l8 l9 : Option Value), j ≤ nif c n → M0 (A 57) n c ws ou → (∀ k, k < n → c k 0 = 5 → j ≤ nif c k → A 63 (nif c k) = zI (alK c n ws k) ∧ J 64 (nif c k) = lN (mK c n ws k)) → ∃ A' J', den mX7_findMeans 9 [some (.ref 56), some (.int (nI (nif c n))), some (.int (nI j + (-1))), l3, l4, l5, l6, l7, l8, l9] [] (mk Lx F A J) = some (none, mk Lx F A' J') ∧ (∀ q, q < nif c n → A' 65 q = zI (gu c n ws q)) ∧ (∀ k, k < n → c k 0 = 5 → J' 64 (nif c k) = lN (mK c n ws k)) ∧ (∀ q, q ≠ 63 → q ≠ 65 → A' q = A q) ∧ ∀ q, q ≠ 64 → J' q = J q := by
  have hn := hv.1
  have hn6 := hv.2.1
  intro j
  induction j with
  | zero =>
    intro A J l3 l4 l5 l6 l7 l8 l9 _ h hk
    obtain ⟨A', g1, g2, g3⟩ := l_fm2 (Lx := Lx) (F := F) (J := J) hv (nif c n) 0 A l3 l4 l5 l6 l7 l8 l9 (by omega) h (fun q hq => absurd hq (by omega)) (fun q hq => by
      obtain ⟨i1, i2, i3⟩ := ipl_spec hq
      have := (hk (ipl c n q) i1 i2 (by omega)).1
      rw [i3] at this
      exact this)
    refine ⟨A', J, ?_, g2, fun k h1 h2 => (hk k h1 h2 (by omega)).2, fun q _ h2 => g3 q h2, fun q _ => rfl⟩
    rw [hX7_findMeans_9]
    simp (disch := omega) only [SX7_findMeans_0, SX7_findMeans_1, SX7_findMeans_2, SX7_findMeans_3, m1lt, g1, Option.bind_some, Option.bind_none, if_true, if_false, zr0, zr1, one11, one01, one0, one1, Option.toList_some, Option.toList_none, List.cons_append, List.nil_append, Nat.reduceEqDiff, Nat.reduceAdd, not_false_eq_true, not_true_eq_false, and_true, true_and, and_false, false_and, or_true, true_or, or_false, false_or, and_self, or_self, Bool.false_eq_true]
  | succ j ih =>
    intro A J l3 l4 l5 l6 l7 l8 l9 hj h hk
    have hlt : j < nif c n := by omega
    obtain ⟨i1, i2, i3⟩ := ipl_spec hlt
    have ht := (hv.2.2.2.1 (ipl c n j) i1).2.2.1
    rw [if_neg (by omega), if_pos i2] at ht
    have m1 := c_meansUnder (Lx := Lx) (F := F) (J := J) h hv (g := 2 * j + 1) (by omega) (fun k h1 h2 h3 => (hk k h1 h2 (by have := (hv.b h1); omega)).2)
    have m2 := c_meansUnder (Lx := Lx) (F := F) (J := J) h hv (g := 2 * j + 2) (by omega) (fun k h1 h2 h3 => (hk k h1 h2 (by have := (hv.b h1); omega)).2)
    have a1 := alK_iff hv i1 i2
    have mk1 : (if alK c n ws (ipl c n j) = true then lN (1000000 * fL c n (kap c) (ipl c n j)) else lN (4000000 + (mG c n ws (2 * j + 1) * c (ipl c n j) 2 + mG c n ws (2 * j + 2) * (10 - c (ipl c n j) 2)) / 10)) = lN (mK c n ws (ipl c n j)) := by
      rw [lN_if, mK, if_pos i2, i3]
      unfold mIf alK
      rw [i3]
      rfl
    rw [i3] at a1
    obtain ⟨A', J', g1, g2, g3, g4, g5⟩ := ih (up A 63 (up (A 63) j (zI (alK c n ws (ipl c n j))))) (up J 64 (up (J 64) j (lN (mK c n ws (ipl c n j))))) (some (.int (nI (ipl c n j)))) (some (.int (nI (c (ipl c n j) 2)))) (some (.long (lN (4000000 + (mG c n ws (2 * j + 1) * c (ipl c n j) 2 + mG c n ws (2 * j + 2) * (10 - c (ipl c n j) 2)) / 10)))) none (some (.long (lN (1000000 * fL c n (kap c) (ipl c n j))))) none (some (.int (nI (ws j)))) (by omega) (by rw [up_ne _ _ (by decide)]; exact h) (fun k h1 h2 h3 => by
      rw [up_eq, up_eq]
      by_cases e : nif c k = j
      · have ek := ipl_at h1 h2
        rw [e] at ek
        rw [e, up_eq, up_eq, ek]
        exact ⟨rfl, rfl⟩
      · rw [up_ne _ _ e, up_ne _ _ e]
        exact hk k h1 h2 (by omega))
    refine ⟨A', J', ?_, g2, g3, fun q h1 h2 => by rw [g4 q h1 h2, up_ne _ _ h1], fun q h1 => by rw [g5 q h1, up_ne _ _ h1]⟩
    rw [nI_dec]
    rw [← mk1] at g1
    exact t_fm0 (by omega) (by omega) ht (hv.2.2.2.2 j hlt) (h.2.2.1 _ i1 2 (by omega)) (h.2.2.2 j hlt) (c_codeOf h hv hlt) m1 m2 (c_flatOf h hv i1) (lN_fl2 (fL_le hv _)) (lN_ju ht (mG_le hv (by omega)) (mG_le hv (by omega))) rfl _ a1 g1
theorem c_findMeans (h : M0 (A 57) n c ws ou) (hv : PV n c ws ou) : ∃ A' J', dcall mX7_findMeans [.ref 56] (mk Lx F A J) = some (none, mk Lx F A' J') ∧ (∀ q, q < nif c n → A' 65 q = zI (gu c n ws q)) ∧ (∀ k, k < n → c k 0 = 5 → J' 64 (nif c k) = lN (mK c n ws k)) ∧ (∀ q, q ≠ 63 → q ≠ 65 → A' q = A q) ∧ ∀ q, q ≠ 64 → J' q = J q := by
  obtain ⟨A', J', g1, g⟩ := l_fm (Lx := Lx) (F := F) hv (nif c n) A J none none none none none none none (Nat.le_refl _) h (fun k h1 h2 h3 => absurd (nif_lt h1 h2) (by omega))
  have en : nI (nif c n) - nI 1 = nI (nif c n) + (-1) := by rw [Int32.sub_eq_add_neg]; congr 1
  refine ⟨A', J', ?_, g⟩
  simp (disch := omega) only [CX7_findMeans, SX7_findMeans_0, SX7_findMeans_1, SX7_findMeans_2, SX7_findMeans_3, O56, c_ifs h hv, en, g1, Option.bind_some, Option.bind_none, if_true, if_false, zr0, zr1, one11, one01, one0, one1, Option.toList_some, Option.toList_none, List.cons_append, List.nil_append, Nat.reduceEqDiff, Nat.reduceAdd, not_false_eq_true, not_true_eq_false, and_true, true_and, and_false, false_and, or_true, true_or, or_false, false_or, and_self, or_self, Bool.false_eq_true]
theorem l_gMany (h : M0 (A 57) n c ws ou) (hv : PV n c ws ou) (hz : ∀ j, j < nif c n → A 65 j = zI (gu c n ws j)) : ∀ k j m, j + k = nif c n → den mX7_guardedMany 8 [some (.ref 56), some (.int (nI m)), some (.int (nI j))] [] (mk Lx F A J) = some (some (.int (nI (m + guM c n ws j k))), mk Lx F A J) := by
  have hn6 := hv.2.1
  intro k
  induction k with
  | zero =>
    intro j m hj
    have hlt : ¬ j < nif c n := by omega
    rw [hX7_guardedMany_8]
    simp (disch := omega) only [SX7_guardedMany, O56, c_ifs h hv, nI_ltI, hlt, guM, sumF, Nat.add_zero, Option.bind_some, Option.bind_none, if_true, if_false, zr0, zr1, one11, one01, one0, one1, Option.toList_some, Option.toList_none, List.cons_append, List.nil_append, Nat.reduceEqDiff, Nat.reduceAdd, not_false_eq_true, not_true_eq_false, and_true, true_and, and_false, false_and, or_true, true_or, or_false, false_or, and_self, or_self, Bool.false_eq_true]
  | succ k ih =>
    intro j m hj
    have hlt : j < nif c n := by omega
    have e := ih (j + 1) (m + (if gu c n ws j = true then 1 else 0)) (by omega)
    rw [hX7_guardedMany_8]
    simp (disch := omega) only [SX7_guardedMany, O56, G56, c_ifs h hv, nI_ltI, hlt, a65, hz j hlt, c_flag, zI_fl, nI_add, Option.bind_some, Option.bind_none, if_true, if_false, zr0, zr1, one11, one01, one0, one1, Option.toList_some, Option.toList_none, List.cons_append, List.nil_append, Nat.reduceEqDiff, Nat.reduceAdd, not_false_eq_true, not_true_eq_false, and_true, true_and, and_false, false_and, or_true, true_or, or_false, false_or, and_self, or_self, Bool.false_eq_true]
    rw [zI_nI, nI_add, e, guM, guM, sumF, Nat.add_assoc]
end MEANF
