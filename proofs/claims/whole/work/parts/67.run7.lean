section RUN7
variable {Lx : Nat} {F A : Nat → Nat → Int32} {J : Nat → Nat → Int64} {Q n ou : Nat} {c : Nat → Nat → Nat} {ws : Nat → Nat}
theorem t_doNo (hQ : isM Q) (hX : XP F A 12 n c ws ou) (hv : PV n c ws ou) {i H S f j : Nat} (hi : i < n) (e5 : ¬ c i 0 = 5) (hst : F Q 5 = (-4)) (hH : F Q 1 = nI H) (hS : F Q 2 = nI S) (hH2 : H < 2 ^ 31) (hS2 : S < 2 ^ 31) (d s : Bool) (hd : H.testBit (c i 4) = d) (hs : S.testBit (c i 4) = s) (hf : A 23 i = nI f) {σ2 : dS} (h0 : d = false → σ2 = mk Lx (up F Q (up (F Q) 4 (F Q 4 + (if (d || s) = true then nI f else nI 0)))) A J) (h1 : d = true → dcall mX2_doOne [.ref Q, .ref 12, .int (nI i)] (mk Lx (up F Q (up (F Q) 4 (F Q 4 + (if (d || s) = true then nI f else nI 0)))) A J) = some (none, σ2)) (l5 l6 l7 : Option Value) {X : Option (Option Value × dS)} (hXX : den mX2_doAll 31 [some (.ref Q), some (.ref 12), some (.ref 22), some (.int (nI j)), some (.int (nI (i + 1))), some (.int (nI (c i 4))), some (.int (zI d)), some (.int (zI (d || s)))] [] σ2 = X) : den mX2_doAll 31 [some (.ref Q), some (.ref 12), some (.ref 22), some (.int (nI j)), some (.int (nI i)), l5, l6, l7] [] (mk Lx F A J) = X := by
  have hn := hv.1
  have hb := hv.b hi
  obtain ⟨x0, x1, x2, x3, x4⟩ := hX.2.2.2.1 i hi
  have b1 : (nI H >>> (nI (c i 4) &&& 31)) &&& nI 1 = zI d := by rw [bit_at hH2 (by omega), hd, zI_nI]
  have b2 : (nI S >>> (nI (c i 4) &&& 31)) &&& nI 1 = zI s := by rw [bit_at hS2 (by omega), hs, zI_nI]
  rw [hX2_doAll_31]
  cases d with
  | true =>
    have h2 := h1 rfl
    simp only [Bool.true_or, zIt, Option.bind_some, Option.bind_none, if_true, if_false, zr0, zr1, one11, one01, one0, one1, Option.toList_some, Option.toList_none, List.cons_append, List.nil_append, Nat.reduceEqDiff, Nat.reduceAdd, not_false_eq_true, not_true_eq_false, and_true, true_and, and_false, false_and, or_true, true_or, or_false, false_or, and_self, or_self, Bool.false_eq_true] at h2 hXX b1
    simp (disch := omega) only [SX2_doAll_0, SX2_doAll_1, SX2_doAll_2, Gp isP_12, Gm hQ, Pm hQ, Om hQ, G22, leN, lep isP_12, ap1 isP_12, ap5 isP_12, hX.1, nI_ltI, hi, hst, hH, x0, x4, b1, nI_eq, nI_e0, e5, a23, hf, h2, nI_add, hXX, eq_self_iff_true, Option.bind_some, Option.bind_none, if_true, if_false, zr0, zr1, one11, one01, one0, one1, Option.toList_some, Option.toList_none, List.cons_append, List.nil_append, Nat.reduceEqDiff, Nat.reduceAdd, not_false_eq_true, not_true_eq_false, and_true, true_and, and_false, false_and, or_true, true_or, or_false, false_or, and_self, or_self, Bool.false_eq_true]
  | false =>
    have h2 := h0 rfl
    subst h2
    cases s <;> simp only [Bool.false_or, zIt, zIf, Option.bind_some, Option.bind_none, if_true, if_false, zr0, zr1, one11, one01, one0, one1, Option.toList_some, Option.toList_none, List.cons_append, List.nil_append, Nat.reduceEqDiff, Nat.reduceAdd, not_false_eq_true, not_true_eq_false, and_true, true_and, and_false, false_and, or_true, true_or, or_false, false_or, and_self, or_self, Bool.false_eq_true] at hXX b1 b2 <;> simp (disch := omega) only [SX2_doAll_0, SX2_doAll_1, SX2_doAll_2, Gp isP_12, Gm hQ, Pm hQ, Om hQ, G22, leN, lep isP_12, ap1 isP_12, ap5 isP_12, hX.1, nI_ltI, hi, hst, hH, hS, x0, x4, b1, b2, nI_eq, nI_e0, e5, a23, hf, nI_add, hXX, eq_self_iff_true, Option.bind_some, Option.bind_none, if_true, if_false, zr0, zr1, one11, one01, one0, one1, Option.toList_some, Option.toList_none, List.cons_append, List.nil_append, Nat.reduceEqDiff, Nat.reduceAdd, not_false_eq_true, not_true_eq_false, and_true, true_and, and_false, false_and, or_true, true_or, or_false, false_or, and_self, or_self, Bool.false_eq_true]
end RUN7
