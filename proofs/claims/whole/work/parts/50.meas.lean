section MEAS
variable {Lx : Nat} {F A : Nat → Nat → Int32} {J : Nat → Nat → Int64} {P n ou : Nat} {c : Nat → Nat → Nat} {ws : Nat → Nat}
theorem l_fillJ (v : Int64) : ∀ k i (J : Nat → Nat → Int64), i + k = 13 → den mJ7_fill_d0a16 6 [some (.ref 25), some (.long v), none, some (.int (nI i)), some (.int (nI 13))] [] (mk Lx F A J) = some (none, mk Lx F A (up J 25 (fun j => if i ≤ j ∧ j < 13 then v else J 25 j))) := by
  intro k
  induction k with
  | zero =>
    intro i J hi
    have : ¬ i < 13 := by omega
    rw [hJ7_fill_d0a16_6]
    have e : (fun j => if i ≤ j ∧ j < 13 then v else J 25 j) = J 25 := by
      funext j
      rw [if_neg (by omega)]
    simp (disch := omega) only [SJ7_fill_d0a16, nI_ltI, this, e, up_id, Option.bind_some, Option.bind_none, if_true, if_false, zr0, zr1, one11, one01, one0, one1, Option.toList_some, Option.toList_none, List.cons_append, List.nil_append, Nat.reduceEqDiff, Nat.reduceAdd, not_false_eq_true, not_true_eq_false, and_true, true_and, and_false, false_and, or_true, true_or, or_false, false_or, and_self, or_self, Bool.false_eq_true]
  | succ k ih =>
    intro i J hi
    have hlt : i < 13 := by omega
    rw [hJ7_fill_d0a16_6]
    simp (disch := omega) only [SJ7_fill_d0a16, nI_ltI, hlt, w25, nI_add, Option.bind_some, Option.bind_none, if_true, if_false, zr0, zr1, one11, one01, one0, one1, Option.toList_some, Option.toList_none, List.cons_append, List.nil_append, Nat.reduceEqDiff, Nat.reduceAdd, not_false_eq_true, not_true_eq_false, and_true, true_and, and_false, false_and, or_true, true_or, or_false, false_or, and_self, or_self, Bool.false_eq_true]
    rw [ih (i + 1) _ (by omega), up_up]
    congr 3
    apply congrArg
    funext j
    rw [up_eq]
    by_cases e : j = i
    · subst e
      rw [if_neg (by omega), up_eq, if_pos (by omega)]
    · rw [up_ne _ _ e]
      by_cases e2 : i ≤ j ∧ j < 13
      · rw [if_pos (by omega), if_pos e2]
      · rw [if_neg (by omega), if_neg e2]
theorem c_fillJ (v : Int64) : dcall mJ7_fill_d0a16 [.ref 25, .long v] (mk Lx F A J) = some (none, mk Lx F A (up J 25 (fun j => if j < 13 then v else J 25 j))) := by
  simp only [CJ7_fill_d0a16, SJ7_fill_d0a16, n25, Option.bind_some, Option.bind_none, if_true, if_false, zr0, zr1, one11, one01, one0, one1, Option.toList_some, Option.toList_none, List.cons_append, List.nil_append, Nat.reduceEqDiff, Nat.reduceAdd, not_false_eq_true, not_true_eq_false, and_true, true_and, and_false, false_and, or_true, true_or, or_false, false_or, and_self, or_self, Bool.false_eq_true]
  rw [l_fillJ v 13 0 J (by omega)]
  simp only [Nat.zero_le, true_and]
theorem l10 : (lN 10 = 0) ↔ False := by decide
theorem c_measureIf0 (hP : isP P) {i j t w y z : Nat} {my mz fm ju : Int64} (hi : i < 24) (hj : j < 6) (x2 : A (P + 3) i = nI t) (ht : t ≤ 10) (x7 : A (P + 7) j = nI w) (hw : w ≤ 2) (hf1 : A 24 (2 * j + 1) = nI y) (hf2 : A 24 (2 * j + 2) = nI z) (hm1 : J 25 (2 * j + 1) = my) (hm2 : J 25 (2 * j + 2) = mz) (hfm : (nI (1 + y + z)).toInt64 * lN 1000000 = fm) (hju : lN 4000000 + (my * (nI t).toInt64 + mz * (nI (10 - t)).toInt64) / lN 10 = ju) {q : Int32} (hq : lg_cmp fm ju = q) (al : Bool) (hal : al = true ↔ (w = 1 ∨ (w = 2 ∧ ¬ 0 < q))) : dcall mX0_measureIf [.ref 22, .ref P, .int (nI i), .int (nI j)] (mk Lx F A J) = some (some (.long (if al = true then fm else ju)), mk Lx F (up (up A 23 (up (A 23) i (nI (1 + y + z)))) 26 (up (A 26) j (zI al))) J) := by
  have hyes : 2 * j + 1 + 1 = 2 * j + 2 := by omega
  have q3 : ∀ f : Nat → Int32, up A 23 f 24 = A 24 := fun f => up_ne _ _ (by decide)
  have q26 : ∀ f : Nat → Int32, up A 23 f 26 = A 26 := fun f => up_ne _ _ (by decide)
  have qP7 : ∀ f : Nat → Int32, up A 23 f (P + 7) = A (P + 7) := fun f => up_ne _ _ (by rcases hP with rfl | rfl | rfl | rfl <;> decide)
  by_cases w1 : w = 1
  · have ha : al = true := hal.mpr (Or.inl w1)
    simp (disch := omega) only [CX0_measureIf, SX0_measureIf_0, SX0_measureIf_1, SX0_measureIf_2, G22, Gp hP, lep hP, leN, ap3 hP, ap7 hP, a24, a25, w23, a23, w26, a26, up_eq, up_ne, q3, q26, qP7, x2, x7, nI_m, nI_add, nI_s, hyes, hf1, hf2, hm1, hm2, l10, hju, hfm, nI_eq, w1, ha, zIt, narZ1, Option.bind_some, Option.bind_none, if_true, if_false, zr0, zr1, one11, one01, one0, one1, Option.toList_some, Option.toList_none, List.cons_append, List.nil_append, Nat.reduceEqDiff, Nat.reduceAdd, not_false_eq_true, not_true_eq_false, and_true, true_and, and_false, false_and, or_true, true_or, or_false, false_or, and_self, or_self, Bool.false_eq_true]
  · by_cases w2 : w = 2
    · obtain ⟨r62, r63, r65, r66, r67, r68, r71, r73, r74, r75, r76, r78, r80, r81, r82, r83, r84, r87, r88, r89, r91, r92, r95, r96, r97, r99, r100, r103, r104, r106, r107, r110, r112, r113, r116, r118, r120, r121, r124, r125⟩ := SX0_measureIf_1
      simp (disch := omega) only [CX0_measureIf, SX0_measureIf_0, r62, r63, r65, r66, r67, r68, r71, r73, r74, r75, r76, r78, r80, r81, r82, r83, r84, r87, r88, r89, r91, r92, r95, r96, r97, r99, r100, r103, r104, r106, r107, r110, r112, r113, G22, Gp hP, lep hP, leN, ap3 hP, ap7 hP, a24, a25, w23, a23, w26, a26, up_eq, up_ne, q3, q26, qP7, x2, x7, nI_m, nI_add, nI_s, hyes, hf1, hf2, hm1, hm2, l10, hju, hfm, nI_eq, w1, w2, Option.bind_some, Option.bind_none, if_true, if_false, zr0, zr1, one11, one01, one0, one1, Option.toList_some, Option.toList_none, List.cons_append, List.nil_append, Nat.reduceEqDiff, Nat.reduceAdd, not_false_eq_true, not_true_eq_false, and_true, true_and, and_false, false_and, or_true, true_or, or_false, false_or, and_self, or_self, Bool.false_eq_true]
      rw [r116, r118, r120, r121, hq]
      clear hq hju hfm
      by_cases hlc : 0 < q
      · have ha : al = false := by
          cases al
          · rfl
          · have := hal.mp rfl
            rcases this with z | z
            · exact absurd z w1
            · exact absurd hlc z.2
        rw [if_pos hlc]
        simp (disch := omega) only [SX0_measureIf_0, SX0_measureIf_1, SX0_measureIf_2, G22, a26, leN, w26, up_eq, up_ne, q26, ha, zIf, narZ0, Option.bind_some, Option.bind_none, if_true, if_false, zr0, zr1, one11, one01, one0, one1, Option.toList_some, Option.toList_none, List.cons_append, List.nil_append, Nat.reduceEqDiff, Nat.reduceAdd, not_false_eq_true, not_true_eq_false, and_true, true_and, and_false, false_and, or_true, true_or, or_false, false_or, and_self, or_self, Bool.false_eq_true]
      · have ha : al = true := hal.mpr (Or.inr ⟨w2, hlc⟩)
        rw [if_neg hlc]
        simp (disch := omega) only [SX0_measureIf_0, SX0_measureIf_1, SX0_measureIf_2, G22, a26, leN, w26, up_eq, up_ne, q26, ha, zIt, narZ1, Option.bind_some, Option.bind_none, if_true, if_false, zr0, zr1, one11, one01, one0, one1, Option.toList_some, Option.toList_none, List.cons_append, List.nil_append, Nat.reduceEqDiff, Nat.reduceAdd, not_false_eq_true, not_true_eq_false, and_true, true_and, and_false, false_and, or_true, true_or, or_false, false_or, and_self, or_self, Bool.false_eq_true]
    · have ha : al = false := by
        cases al
        · rfl
        · have := hal.mp rfl
          rcases this with q | q
          · exact absurd q w1
          · exact absurd q.1 w2
      simp (disch := omega) only [CX0_measureIf, SX0_measureIf_0, SX0_measureIf_1, SX0_measureIf_2, G22, Gp hP, lep hP, leN, ap3 hP, ap7 hP, a24, a25, w23, a23, w26, a26, up_eq, up_ne, q3, q26, qP7, x2, x7, nI_m, nI_add, nI_s, hyes, hf1, hf2, hm1, hm2, l10, hju, hfm, nI_eq, w1, w2, ha, zIf, narZ0, Option.bind_some, Option.bind_none, if_true, if_false, zr0, zr1, one11, one01, one0, one1, Option.toList_some, Option.toList_none, List.cons_append, List.nil_append, Nat.reduceEqDiff, Nat.reduceAdd, not_false_eq_true, not_true_eq_false, and_true, true_and, and_false, false_and, or_true, true_or, or_false, false_or, and_self, or_self, Bool.false_eq_true]
theorem lN_ju {y z t : Nat} (ht : t ≤ 10) (hy : y ≤ 96000000) (hz : z ≤ 96000000) : lN 4000000 + (lN y * (nI t).toInt64 + lN z * (nI (10 - t)).toInt64) / lN 10 = lN (4000000 + (y * t + z * (10 - t)) / 10) := by
  have p1 : y * t ≤ 96000000 * 10 := Nat.mul_le_mul hy ht
  have p2 : z * (10 - t) ≤ 96000000 * 10 := Nat.mul_le_mul hz (by omega)
  rw [nI_l (by omega), nI_l (by omega), lN_mul, lN_mul, lN_add, pk_lDiv (by omega) (by decide) (by decide), lN_add]
theorem lN_fl {f : Nat} (h : f ≤ 200) : (nI f).toInt64 * lN 1000000 = lN (1000000 * f) := by rw [nI_l (by omega), lN_mul, Nat.mul_comm]
theorem lg_fj {f j : Nat} (hf : f ≤ 200) (hj : j ≤ 196000000) : 0 < lg_cmp (lN (1000000 * f)) (lN j) ↔ j < 1000000 * f := by rw [lg_gt, pk_lLT (by omega) (by omega)]
theorem lN_if (b : Bool) (x y : Nat) : (if b = true then lN x else lN y) = lN (if b = true then x else y) := by cases b <;> rfl
theorem alK_iff (hv : PV n c ws ou) {i : Nat} (hi : i < n) (e5 : c i 0 = 5) : alK c n ws i = true ↔ (ws (nif c i) = 1 ∨ (ws (nif c i) = 2 ∧ ¬ 0 < lg_cmp (lN (1000000 * fL c n (kap c) i)) (lN (jum c i (mG c n ws (2 * nif c i + 1)) (mG c n ws (2 * nif c i + 2)))))) := by
  have hlt := nif_lt hi e5
  have ht := (hv.2.2.2.1 i hi).2.2.1
  rw [if_neg (by omega), if_pos e5] at ht
  have g1 := mG_le hv (g := 2 * nif c i + 1) (by omega)
  have g2 := mG_le hv (g := 2 * nif c i + 2) (by omega)
  have hjl := jum_le (c := c) (k := i) (y := mG c n ws (2 * nif c i + 1)) (z := mG c n ws (2 * nif c i + 2)) ht
  rw [lg_fj (fL_le hv i) (by omega), Nat.not_lt]
  unfold alK alo
  rw [decide_eq_true_eq]
theorem c_measureIf (hP : isP P) (h : XP F A P n c ws ou) (hv : PV n c ws ou) {i : Nat} (hi : i < n) (e5 : c i 0 = 5) (hf1 : A 24 (2 * nif c i + 1) = nI (fG c n (kap c) (2 * nif c i + 1))) (hf2 : A 24 (2 * nif c i + 2) = nI (fG c n (kap c) (2 * nif c i + 2))) (hm1 : J 25 (2 * nif c i + 1) = lN (mG c n ws (2 * nif c i + 1))) (hm2 : J 25 (2 * nif c i + 2) = lN (mG c n ws (2 * nif c i + 2))) : dcall mX0_measureIf [.ref 22, .ref P, .int (nI i), .int (nI (nif c i))] (mk Lx F A J) = some (some (.long (lN (mK c n ws i))), mk Lx F (up (up A 23 (up (A 23) i (nI (fL c n (kap c) i)))) 26 (up (A 26) (nif c i) (zI (alK c n ws i)))) J) := by
  have hn := hv.1
  have hn6 := hv.2.1
  have hlt := nif_lt hi e5
  have ht := (hv.2.2.2.1 i hi).2.2.1
  rw [if_neg (by omega), if_pos e5] at ht
  have hfl : 1 + fG c n (kap c) (2 * nif c i + 1) + fG c n (kap c) (2 * nif c i + 2) = fL c n (kap c) i := by
    rw [fL, if_pos e5, kap, if_neg (by omega), Nat.add_assoc]
  have hfm := lN_fl (fL_le hv i)
  rw [← hfl] at hfm
  have := c_measureIf0 (Lx := Lx) (F := F) (A := A) (J := J) hP (show i < 24 by omega) (show nif c i < 6 by omega) (h.2.2.2.1 i hi).2.2.1 ht (h.2.2.2.2.2 _ hlt) (hv.2.2.2.2 _ hlt) hf1 hf2 hm1 hm2 hfm (lN_ju ht (mG_le hv (by omega)) (mG_le hv (by omega))) rfl (alK c n ws i) (by rw [hfl]; exact alK_iff hv hi e5)
  rw [this, hfl, lN_if, mK, if_pos e5]
  rfl
end MEAS
