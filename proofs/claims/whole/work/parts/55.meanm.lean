section MEANM
variable {Lx : Nat} {F A : Nat → Nat → Int32} {J : Nat → Nat → Int64} {n ou : Nat} {c : Nat → Nat → Nat} {ws : Nat → Nat}
theorem lN_fl2 {f : Nat} (h : f ≤ 200) : lN 1000000 * (nI f).toInt64 = lN (1000000 * f) := by rw [nI_l (by omega), lN_mul]
theorem l_mu (h : M0 (A 57) n c ws ou) (hv : PV n c ws ou) {g : Nat} (hg : g ≤ 12) (hJ : ∀ k, k < n → c k 0 = 5 → c k 4 = g → J 64 (nif c k) = lN (mK c n ws k)) : ∀ k i m, i + k = n → den mX7_meansUnder 5 [some (.ref 56), some (.int (nI g)), some (.long (lN m)), none, some (.int (nI i))] [] (mk Lx F A J) = some (some (.long (lN (m + sumF (fun k => if c k 4 = g then mK c n ws k else 0) i k))), mk Lx F A J) := by
  have hn := hv.1
  have hn6 := hv.2.1
  intro k
  induction k with
  | zero =>
    intro i m hi
    have hlt : ¬ i < n := by omega
    rw [hX7_meansUnder_5]
    simp (disch := omega) only [SX7_meansUnder_0, SX7_meansUnder_1, G56, leN, a57, h.1, nI_ltI, hlt, sumF, Nat.add_zero, Option.bind_some, Option.bind_none, if_true, if_false, zr0, zr1, one11, one01, one0, one1, Option.toList_some, Option.toList_none, List.cons_append, List.nil_append, Nat.reduceEqDiff, Nat.reduceAdd, not_false_eq_true, not_true_eq_false, and_true, true_and, and_false, false_and, or_true, true_or, or_false, false_or, and_self, or_self, Bool.false_eq_true]
  | succ k ih =>
    intro i m hi
    have hlt : i < n := by omega
    have hb := hv.b hlt
    have g4 := h.2.2.1 i hlt 4 (by omega)
    have g0 := h.2.2.1 i hlt 0 (by omega)
    rw [Nat.add_zero] at g0
    rw [sumF, ← Nat.add_assoc, hX7_meansUnder_5]
    by_cases eg : c i 4 = g
    · have e := ih (i + 1) (m + mK c n ws i) (by omega)
      rw [if_pos eg]
      by_cases e5 : c i 0 = 5
      · have hnl := nif_lt hlt e5
        have e64 := hJ i hlt e5 eg
        simp (disch := omega) only [SX7_meansUnder_0, SX7_meansUnder_1, G56, O56, leN, a57, h.1, nI_ltI, hlt, c_of, g4, g0, Nat.add_zero, nI_eq, eg, e5, c_ifOfM h hv, a64, e64, lN_add, nI_add, e, Option.bind_some, Option.bind_none, if_true, if_false, zr0, zr1, one11, one01, one0, one1, Option.toList_some, Option.toList_none, List.cons_append, List.nil_append, Nat.reduceEqDiff, Nat.reduceAdd, not_false_eq_true, not_true_eq_false, and_true, true_and, and_false, false_and, or_true, true_or, or_false, false_or, and_self, or_self, Bool.false_eq_true]
      · have el : lN 1000000 * (nI (if c i 0 = 4 then 4 else 1)).toInt64 = lN (mK c n ws i) := by
          rw [mK, if_neg e5, kap]
          exact lN_fl2 (by split <;> omega)
        simp (disch := omega) only [SX7_meansUnder_0, SX7_meansUnder_1, G56, O56, leN, a57, h.1, nI_ltI, hlt, c_of, g4, g0, Nat.add_zero, nI_eq, eg, e5, c_costOf, el, lN_add, nI_add, e, Option.bind_some, Option.bind_none, if_true, if_false, zr0, zr1, one11, one01, one0, one1, Option.toList_some, Option.toList_none, List.cons_append, List.nil_append, Nat.reduceEqDiff, Nat.reduceAdd, not_false_eq_true, not_true_eq_false, and_true, true_and, and_false, false_and, or_true, true_or, or_false, false_or, and_self, or_self, Bool.false_eq_true]
    · have e := ih (i + 1) m (by omega)
      rw [if_neg eg, Nat.add_zero]
      simp (disch := omega) only [SX7_meansUnder_0, SX7_meansUnder_1, G56, O56, leN, a57, h.1, nI_ltI, hlt, c_of, g4, nI_eq, eg, nI_add, e, Option.bind_some, Option.bind_none, if_true, if_false, zr0, zr1, one11, one01, one0, one1, Option.toList_some, Option.toList_none, List.cons_append, List.nil_append, Nat.reduceEqDiff, Nat.reduceAdd, not_false_eq_true, not_true_eq_false, and_true, true_and, and_false, false_and, or_true, true_or, or_false, false_or, and_self, or_self, Bool.false_eq_true]
theorem c_meansUnder (h : M0 (A 57) n c ws ou) (hv : PV n c ws ou) {g : Nat} (hg : g ≤ 2 * nif c n) (hJ : ∀ k, k < n → c k 0 = 5 → c k 4 = g → J 64 (nif c k) = lN (mK c n ws k)) : dcall mX7_meansUnder [.ref 56, .int (nI g)] (mk Lx F A J) = some (some (.long (lN (mG c n ws g))), mk Lx F A J) := by
  have hn6 := hv.2.1
  have e := l_mu (Lx := Lx) (F := F) h hv (by omega) hJ n 0 0 (by omega)
  rw [Nat.zero_add, ← mG_eq hv hg] at e
  simp only [CX7_meansUnder, SX7_meansUnder_0, SX7_meansUnder_1, e, Option.bind_some, Option.bind_none, if_true, if_false, zr0, zr1, one11, one01, one0, one1, Option.toList_some, Option.toList_none, List.cons_append, List.nil_append, Nat.reduceEqDiff, Nat.reduceAdd, not_false_eq_true, not_true_eq_false, and_true, true_and, and_false, false_and, or_true, true_or, or_false, false_or, and_self, or_self, Bool.false_eq_true]
theorem t_fm0 {i j t w f m : Nat} {my mz fm ju : Int64} {l3 l4 l5 l6 l7 l8 l9 : Option Value} (hi : i < 24) (hj : j < 6) (ht : t ≤ 10) (hw : w ≤ 2) (x2 : A 57 (5 * i + 2) = nI t) (x7 : A 57 (122 + j) = nI w) (hco : dcall mX7_codeOf [.ref 56, .int (nI j)] (mk Lx F A J) = some (some (.int (nI i)), mk Lx F A J)) (hm1 : dcall mX7_meansUnder [.ref 56, .int (nI (2 * j + 1))] (mk Lx F A J) = some (some (.long my), mk Lx F A J)) (hm2 : dcall mX7_meansUnder [.ref 56, .int (nI (2 * j + 2))] (mk Lx F A J) = some (some (.long mz), mk Lx F A J)) (hf : dcall mX7_flatOf [.ref 56, .int (nI i)] (mk Lx F A J) = some (some (.int (nI f)), mk Lx F A J)) (hfm : lN 1000000 * (nI f).toInt64 = fm) (hju : lN 4000000 + (my * (nI t).toInt64 + mz * (nI (10 - t)).toInt64) / lN 10 = ju) {q : Int32} (hq : lg_cmp fm ju = q) (al : Bool) (hal : al = true ↔ (w = 1 ∨ (w = 2 ∧ ¬ 0 < q))) {X : Option (Option Value × dS)} (hX : den mX7_findMeans 9 [some (.ref 56), some (.int (nI m)), some (.int (nI j + (-1))), some (.int (nI i)), some (.int (nI t)), some (.long ju), none, some (.long fm), none, some (.int (nI w))] [] (mk Lx F (up A 63 (up (A 63) j (zI al))) (up J 64 (up (J 64) j (if al = true then fm else ju)))) = X) : den mX7_findMeans 9 [some (.ref 56), some (.int (nI m)), some (.int (nI j)), l3, l4, l5, l6, l7, l8, l9] [] (mk Lx F A J) = X := by
  obtain ⟨r59, r60, r63, r64, r65, r67, r70, r71, r72, r75, r76, r77, r79, r80, r83, r85, r86, r87, r88, r90, r91, r94, r95, r97, r98, r101, r103, r104, r107, r109, r111, r112, r115, r116, r119, r120, r121, r122, r125, r126⟩ := SX7_findMeans_1
  rw [hX7_findMeans_9]
  simp (disch := omega) only [SX7_findMeans_0, r59, r60, r63, r64, r65, r67, r70, r71, r72, r75, r76, r77, r79, r80, r83, r85, r86, r87, r88, r90, r91, r94, r95, r97, G56, O56, leN, a57, nI_l0, hco, c_of, x2, x7, nI_m, nI_add, nI_s, hm1, hm2, hf, l10, hju, hfm, Option.bind_some, Option.bind_none, if_true, if_false, zr0, zr1, one11, one01, one0, one1, Option.toList_some, Option.toList_none, List.cons_append, List.nil_append, Nat.reduceEqDiff, Nat.reduceAdd, not_false_eq_true, not_true_eq_false, and_true, true_and, and_false, false_and, or_true, true_or, or_false, false_or, and_self, or_self, Bool.false_eq_true]
  have w1e : (nI w = nI 1) ↔ w = 1 := nI_eq (by omega) (by decide)
  have w2e : (nI w = nI 2) ↔ w = 2 := nI_eq (by omega) (by decide)
  have kt : al = true → den mX7_findMeans 115 [some (.ref 56), some (.int (nI m)), some (.int (nI j)), some (.int (nI i)), some (.int (nI t)), some (.long ju), none, some (.long fm), none, some (.int (nI w))] [.int (nI j), .ref 63] (mk Lx F A J) = X := by
    intro ha
    rw [ha, zIt, if_pos rfl] at hX
    simp (disch := omega) only [SX7_findMeans_0, SX7_findMeans_1, SX7_findMeans_2, SX7_findMeans_3, G56, leN, w63, narZ1, a63, up_eq, w64, hX, Option.bind_some, Option.bind_none, if_true, if_false, zr0, zr1, one11, one01, one0, one1, Option.toList_some, Option.toList_none, List.cons_append, List.nil_append, Nat.reduceEqDiff, Nat.reduceAdd, not_false_eq_true, not_true_eq_false, and_true, true_and, and_false, false_and, or_true, true_or, or_false, false_or, and_self, or_self, Bool.false_eq_true]
  have kf : al = false → den mX7_findMeans 119 [some (.ref 56), some (.int (nI m)), some (.int (nI j)), some (.int (nI i)), some (.int (nI t)), some (.long ju), none, some (.long fm), none, some (.int (nI w))] [.int (nI j), .ref 63] (mk Lx F A J) = X := by
    intro ha
    rw [ha, zIf, if_neg (by decide)] at hX
    simp (disch := omega) only [SX7_findMeans_0, SX7_findMeans_1, SX7_findMeans_2, SX7_findMeans_3, G56, leN, w63, narZ0, a63, up_eq, w64, hX, Option.bind_some, Option.bind_none, if_true, if_false, zr0, zr1, one11, one01, one0, one1, Option.toList_some, Option.toList_none, List.cons_append, List.nil_append, Nat.reduceEqDiff, Nat.reduceAdd, not_false_eq_true, not_true_eq_false, and_true, true_and, and_false, false_and, or_true, true_or, or_false, false_or, and_self, or_self, Bool.false_eq_true]
  have nal : ∀ z : ¬ (w = 1 ∨ (w = 2 ∧ ¬ 0 < q)), al = false := fun z => by
    cases al
    · rfl
    · exact absurd (hal.mp rfl) z
  rw [r98]
  by_cases w1 : w = 1
  · rw [if_pos (w1e.mpr w1)]
    exact kt (hal.mpr (Or.inl w1))
  · rw [if_neg (fun z => w1 (w1e.mp z)), r101, r103, r104]
    by_cases w2 : w = 2
    · rw [if_pos (w2e.mpr w2), r107, r109, r111, r112, hq]
      by_cases hlc : 0 < q
      · rw [if_pos hlc]
        exact kf (nal (fun z => z.elim w1 (fun y => y.2 hlc)))
      · rw [if_neg hlc]
        exact kt (hal.mpr (Or.inr ⟨w2, hlc⟩))
    · rw [if_neg (fun z => w2 (w2e.mp z))]
      exact kf (nal (fun z => z.elim w1 (fun y => w2 y.1)))
end MEANM
