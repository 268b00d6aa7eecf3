section MERGE6
variable {Lx : Nat} {F A : Nat → Nat → Int32} {J : Nat → Nat → Int64} {P n ou : Nat} {c : Nat → Nat → Nat} {ws : Nat → Nat}
theorem c_areAlike (hP : isP P) (h : XP F A P n c ws ou) (hv : PV n c ws ou) {a b : Nat} (ha : a < n) (hb : b < n) : dcall mX3_areAlike [.ref P, .int (nI a), .int (nI b)] (mk Lx F A J) = some (some (.int (zI (alk c a b))), mk Lx F A J) := by
  have hn := hv.1
  have qa := hv.b ha
  have qb := hv.b hb
  obtain ⟨x0, x1, x2, x3, -⟩ := h.2.2.2.1 a ha
  obtain ⟨y0, y1, y2, y3, -⟩ := h.2.2.2.1 b hb
  unfold alk
  by_cases e0 : c a 0 = c b 0
  · by_cases e1 : c a 1 = c b 1
    · by_cases e2 : c a 2 = c b 2
      · by_cases e3 : c a 3 = c b 3
        · rw [beq_iff_eq.mpr e0, beq_iff_eq.mpr e1, beq_iff_eq.mpr e2, beq_iff_eq.mpr e3]
          simp (disch := omega) only [CX3_areAlike, SX3_areAlike, Gp hP, lep hP, ap1 hP, ap2 hP, ap3 hP, ap4 hP, x0, x1, x2, x3, y0, y1, y2, y3, nI_eq, e0, e1, e2, e3, eq_self_iff_true, Bool.and_true, zIt, Option.bind_some, Option.bind_none, if_true, if_false, zr0, zr1, one11, one01, one0, one1, Option.toList_some, Option.toList_none, List.cons_append, List.nil_append, Nat.reduceEqDiff, Nat.reduceAdd, not_false_eq_true, not_true_eq_false, and_true, true_and, and_false, false_and, or_true, true_or, or_false, false_or, and_self, or_self, Bool.false_eq_true]
        · rw [beq_eq_false_iff_ne.mpr e3, Bool.and_false, Bool.and_false, Bool.and_false]
          simp (disch := omega) only [CX3_areAlike, SX3_areAlike, Gp hP, lep hP, ap1 hP, ap2 hP, ap3 hP, ap4 hP, x0, x1, x2, x3, y0, y1, y2, y3, nI_eq, e0, e1, e2, e3, eq_self_iff_true, zIf, Option.bind_some, Option.bind_none, if_true, if_false, zr0, zr1, one11, one01, one0, one1, Option.toList_some, Option.toList_none, List.cons_append, List.nil_append, Nat.reduceEqDiff, Nat.reduceAdd, not_false_eq_true, not_true_eq_false, and_true, true_and, and_false, false_and, or_true, true_or, or_false, false_or, and_self, or_self, Bool.false_eq_true]
      · rw [beq_eq_false_iff_ne.mpr e2, Bool.false_and, Bool.and_false, Bool.and_false]
        simp (disch := omega) only [CX3_areAlike, SX3_areAlike, Gp hP, lep hP, ap1 hP, ap2 hP, ap3 hP, x0, x1, x2, y0, y1, y2, nI_eq, e0, e1, e2, eq_self_iff_true, zIf, Option.bind_some, Option.bind_none, if_true, if_false, zr0, zr1, one11, one01, one0, one1, Option.toList_some, Option.toList_none, List.cons_append, List.nil_append, Nat.reduceEqDiff, Nat.reduceAdd, not_false_eq_true, not_true_eq_false, and_true, true_and, and_false, false_and, or_true, true_or, or_false, false_or, and_self, or_self, Bool.false_eq_true]
    · rw [beq_eq_false_iff_ne.mpr e1, Bool.false_and, Bool.and_false]
      simp (disch := omega) only [CX3_areAlike, SX3_areAlike, Gp hP, lep hP, ap1 hP, ap2 hP, x0, x1, y0, y1, nI_eq, e0, e1, eq_self_iff_true, zIf, Option.bind_some, Option.bind_none, if_true, if_false, zr0, zr1, one11, one01, one0, one1, Option.toList_some, Option.toList_none, List.cons_append, List.nil_append, Nat.reduceEqDiff, Nat.reduceAdd, not_false_eq_true, not_true_eq_false, and_true, true_and, and_false, false_and, or_true, true_or, or_false, false_or, and_self, or_self, Bool.false_eq_true]
  · rw [beq_eq_false_iff_ne.mpr e0, Bool.false_and]
    simp (disch := omega) only [CX3_areAlike, SX3_areAlike, Gp hP, lep hP, ap1 hP, x0, y0, nI_eq, e0, zIf, Option.bind_some, Option.bind_none, if_true, if_false, zr0, zr1, one11, one01, one0, one1, Option.toList_some, Option.toList_none, List.cons_append, List.nil_append, Nat.reduceEqDiff, Nat.reduceAdd, not_false_eq_true, not_true_eq_false, and_true, true_and, and_false, false_and, or_true, true_or, or_false, false_or, and_self, or_self, Bool.false_eq_true]
theorem c_mayMerge (hP : isP P) (h : XP F A P n c ws ou) (hv : PV n c ws ou) {j : Nat} (hj : j < nif c n) : dcall mX3_mayMerge [.ref P, .int (nI j)] (mk Lx F A J) = some (some (.int (zI (mmB c n j))), mk Lx F A J) := by
  have hn := hv.1
  have hn6 := hv.2.1
  obtain ⟨p1, p2, p3⟩ := ipl_spec hj
  have f1 := c_firstUnder (Lx := Lx) (J := J) hP h hv (g := 2 * j + 1) (by omega)
  have f2 := c_firstUnder (Lx := Lx) (J := J) hP h hv (g := 2 * j + 2) (by omega)
  have x6 := h.2.2.2.2.1 j hj
  have m44 : ((-4 : Int32) = (-4)) ↔ True := by decide
  unfold mmB
  cases ea : fuA c n (2 * j + 1) with
  | none =>
    unfold fuA at ea
    rw [ea] at f1
    cases eb : fstF (fun i => c i 4 == 2 * j + 2) 0 n with
    | none =>
      rw [eb] at f2
      simp (disch := omega) only [CX3_mayMerge, SX3_mayMerge_0, SX3_mayMerge_1, Op hP, nI_m, nI_add, f1, f2, oI, m44, zIf, Option.bind_some, Option.bind_none, if_true, if_false, zr0, zr1, one11, one01, one0, one1, Option.toList_some, Option.toList_none, List.cons_append, List.nil_append, Nat.reduceEqDiff, Nat.reduceAdd, not_false_eq_true, not_true_eq_false, and_true, true_and, and_false, false_and, or_true, true_or, or_false, false_or, and_self, or_self, Bool.false_eq_true]
    | some b =>
      rw [eb] at f2
      simp (disch := omega) only [CX3_mayMerge, SX3_mayMerge_0, SX3_mayMerge_1, Op hP, nI_m, nI_add, f1, f2, oI, m44, zIf, Option.bind_some, Option.bind_none, if_true, if_false, zr0, zr1, one11, one01, one0, one1, Option.toList_some, Option.toList_none, List.cons_append, List.nil_append, Nat.reduceEqDiff, Nat.reduceAdd, not_false_eq_true, not_true_eq_false, and_true, true_and, and_false, false_and, or_true, true_or, or_false, false_or, and_self, or_self, Bool.false_eq_true]
  | some a =>
    obtain ⟨a1, a2⟩ := fuA_some ea
    have qa := hv.b a1
    have n4a : ¬ nI a = (-4) := nI_m4 (by omega)
    unfold fuA at ea
    rw [ea] at f1
    cases eb : fuA c n (2 * j + 2) with
    | none =>
      unfold fuA at eb
      rw [eb] at f2
      simp (disch := omega) only [CX3_mayMerge, SX3_mayMerge_0, SX3_mayMerge_1, Op hP, nI_m, nI_add, f1, f2, oI, n4a, m44, zIf, Option.bind_some, Option.bind_none, if_true, if_false, zr0, zr1, one11, one01, one0, one1, Option.toList_some, Option.toList_none, List.cons_append, List.nil_append, Nat.reduceEqDiff, Nat.reduceAdd, not_false_eq_true, not_true_eq_false, and_true, true_and, and_false, false_and, or_true, true_or, or_false, false_or, and_self, or_self, Bool.false_eq_true]
    | some b =>
      obtain ⟨b1, b2⟩ := fuA_some eb
      have n4b : ¬ nI b = (-4) := nI_m4 (by omega)
      unfold fuA at eb
      rw [eb] at f2
      obtain ⟨x0, x1, -⟩ := h.2.2.2.1 a a1
      obtain ⟨y0, y1, -⟩ := h.2.2.2.1 _ p1
      have qp := hv.b p1
      have al := c_areAlike (Lx := Lx) (J := J) hP h hv a1 b1
      show _ = some (some (Value.int (zI (c a 0 != 5 && (alk c a b && c a 1 != c (ipl c n j) 1)))), mk Lx F A J)
      by_cases e5 : c a 0 = 5
      · rw [bne_eq_false_iff_eq.mpr e5, Bool.false_and]
        rw [e5] at x0
        simp (disch := omega) only [CX3_mayMerge, SX3_mayMerge_0, SX3_mayMerge_1, Op hP, Gp hP, lep hP, ap1 hP, nI_m, nI_add, f1, f2, oI, n4a, n4b, x0, eq_self_iff_true, zIf, Option.bind_some, Option.bind_none, if_true, if_false, zr0, zr1, one11, one01, one0, one1, Option.toList_some, Option.toList_none, List.cons_append, List.nil_append, Nat.reduceEqDiff, Nat.reduceAdd, not_false_eq_true, not_true_eq_false, and_true, true_and, and_false, false_and, or_true, true_or, or_false, false_or, and_self, or_self, Bool.false_eq_true]
      · rw [bne_iff_ne.mpr e5, Bool.true_and]
        cases ek : alk c a b with
        | false =>
          rw [ek, zIf] at al
          simp (disch := omega) only [CX3_mayMerge, SX3_mayMerge_0, SX3_mayMerge_1, Op hP, Gp hP, lep hP, ap1 hP, nI_m, nI_add, f1, f2, oI, n4a, n4b, x0, nI_eq, e5, al, Bool.false_and, zIf, Option.bind_some, Option.bind_none, if_true, if_false, zr0, zr1, one11, one01, one0, one1, Option.toList_some, Option.toList_none, List.cons_append, List.nil_append, Nat.reduceEqDiff, Nat.reduceAdd, not_false_eq_true, not_true_eq_false, and_true, true_and, and_false, false_and, or_true, true_or, or_false, false_or, and_self, or_self, Bool.false_eq_true]
        | true =>
          rw [ek, zIt] at al
          by_cases e1 : c a 1 = c (ipl c n j) 1
          · rw [bne_eq_false_iff_eq.mpr e1, Bool.and_false]
            simp (disch := omega) only [CX3_mayMerge, SX3_mayMerge_0, SX3_mayMerge_1, Op hP, Gp hP, lep hP, ap1 hP, ap2 hP, ap6 hP, nI_m, nI_add, f1, f2, oI, n4a, n4b, x0, x1, x6, y1, nI_eq, e5, al, e1, eq_self_iff_true, zIf, Option.bind_some, Option.bind_none, if_true, if_false, zr0, zr1, one11, one01, one0, one1, Option.toList_some, Option.toList_none, List.cons_append, List.nil_append, Nat.reduceEqDiff, Nat.reduceAdd, not_false_eq_true, not_true_eq_false, and_true, true_and, and_false, false_and, or_true, true_or, or_false, false_or, and_self, or_self, Bool.false_eq_true]
          · rw [bne_iff_ne.mpr e1, Bool.and_true]
            simp (disch := omega) only [CX3_mayMerge, SX3_mayMerge_0, SX3_mayMerge_1, Op hP, Gp hP, lep hP, ap1 hP, ap2 hP, ap6 hP, nI_m, nI_add, f1, f2, oI, n4a, n4b, x0, x1, x6, y1, nI_eq, e5, al, e1, eq_self_iff_true, zIt, Option.bind_some, Option.bind_none, if_true, if_false, zr0, zr1, one11, one01, one0, one1, Option.toList_some, Option.toList_none, List.cons_append, List.nil_append, Nat.reduceEqDiff, Nat.reduceAdd, not_false_eq_true, not_true_eq_false, and_true, true_and, and_false, false_and, or_true, true_or, or_false, false_or, and_self, or_self, Bool.false_eq_true]
theorem c_firstToMerge (hP : isP P) (h : XP F A P n c ws ou) (hv : PV n c ws ou) : dcall mX3_firstToMerge [.ref P] (mk Lx F A J) = some (some (.int (oI (fstF (mmB c n) 0 (nif c n)))), mk Lx F A J) := by
  have hn6 := hv.2.1
  have l : ∀ k j, j + k = nif c n → den mX3_firstToMerge 2 [some (.ref P), some (.int (nI j))] [] (mk Lx F A J) = some (some (.int (oI (fstF (mmB c n) j k))), mk Lx F A J) := by
    intro k
    induction k with
    | zero =>
      intro j hj
      have hlt : ¬ j < nif c n := by omega
      rw [hX3_firstToMerge_2]
      simp (disch := omega) only [SX3_firstToMerge, Gp hP, h.2.1, nI_ltI, hlt, fstF, oI, Option.bind_some, Option.bind_none, if_true, if_false, zr0, zr1, one11, one01, one0, one1, Option.toList_some, Option.toList_none, List.cons_append, List.nil_append, Nat.reduceEqDiff, Nat.reduceAdd, not_false_eq_true, not_true_eq_false, and_true, true_and, and_false, false_and, or_true, true_or, or_false, false_or, and_self, or_self, Bool.false_eq_true]
    | succ k ih =>
      intro j hj
      have hlt : j < nif c n := by omega
      have e := ih (j + 1) (by omega)
      have m := c_mayMerge (Lx := Lx) (J := J) hP h hv hlt
      rw [hX3_firstToMerge_2, fstF]
      cases em : mmB c n j with
      | true =>
        rw [em, zIt] at m
        simp (disch := omega) only [SX3_firstToMerge, Gp hP, Op hP, h.2.1, nI_ltI, hlt, m, oI, Option.bind_some, Option.bind_none, if_true, if_false, zr0, zr1, one11, one01, one0, one1, Option.toList_some, Option.toList_none, List.cons_append, List.nil_append, Nat.reduceEqDiff, Nat.reduceAdd, not_false_eq_true, not_true_eq_false, and_true, true_and, and_false, false_and, or_true, true_or, or_false, false_or, and_self, or_self, Bool.false_eq_true]
      | false =>
        rw [em, zIf] at m
        simp (disch := omega) only [SX3_firstToMerge, Gp hP, Op hP, h.2.1, nI_ltI, hlt, m, nI_add, e, Option.bind_some, Option.bind_none, if_true, if_false, zr0, zr1, one11, one01, one0, one1, Option.toList_some, Option.toList_none, List.cons_append, List.nil_append, Nat.reduceEqDiff, Nat.reduceAdd, not_false_eq_true, not_true_eq_false, and_true, true_and, and_false, false_and, or_true, true_or, or_false, false_or, and_self, or_self, Bool.false_eq_true]
  have e := l (nif c n) 0 (by omega)
  simp (disch := omega) only [CX3_firstToMerge, SX3_firstToMerge, e, Option.bind_some, Option.bind_none, if_true, if_false, zr0, zr1, one11, one01, one0, one1, Option.toList_some, Option.toList_none, List.cons_append, List.nil_append, Nat.reduceEqDiff, Nat.reduceAdd, not_false_eq_true, not_true_eq_false, and_true, true_and, and_false, false_and, or_true, true_or, or_false, false_or, and_self, or_self, Bool.false_eq_true]
end MERGE6
