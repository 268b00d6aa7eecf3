section RUN6
variable {Lx : Nat} {F A : Nat → Nat → Int32} {J : Nat → Nat → Int64} {Q n ou : Nat} {c : Nat → Nat → Nat} {ws : Nat → Nat}
theorem t_doIf (hQ : isM Q) (hX : XP F A 12 n c ws ou) (hv : PV n c ws ou) {i H S : Nat} (hi : i < n) (e5 : c i 0 = 5) (hst : F Q 5 = (-4)) (hH : F Q 1 = nI H) (hS : F Q 2 = nI S) (hH2 : H < 2 ^ 31) (hS2 : S < 2 ^ 31) (d s g y : Bool) (hd : H.testBit (c i 4) = d) (hs : S.testBit (c i 4) = s) (hg : A 26 (nif c i) = zI g) (hy : y = true ↔ 0 < A (Q + 1) (c i 1)) (l5 l6 l7 : Option Value) {X : Option (Option Value × dS)} (hXX : den mX2_doAll 31 [some (.ref Q), some (.ref 12), some (.ref 22), some (.int (nI (nif c i + 1))), some (.int (nI (i + 1))), some (.int (nI (c i 4))), some (.int (zI d)), some (.int (zI (d || s)))] [] (mk Lx (gI3 Q (gI2 Q (gI1 Q F (d || s) g) (nif c i) (d || s) g) (nif c i) d y) A J) = X) : den mX2_doAll 31 [some (.ref Q), some (.ref 12), some (.ref 22), some (.int (nI (nif c i))), some (.int (nI i)), l5, l6, l7] [] (mk Lx F A J) = X := by
  have hn := hv.1
  have hn6 := hv.2.1
  have hb := hv.b hi
  have hnl := nif_lt hi e5
  obtain ⟨x0, x1, x2, x3, x4⟩ := hX.2.2.2.1 i hi
  rw [e5] at x0
  have hq : Q + 1 ≤ dN := lem hQ 1 (by omega)
  have b1 : (nI H >>> (nI (c i 4) &&& 31)) &&& nI 1 = zI d := by rw [bit_at hH2 (by omega), hd, zI_nI]
  have b2 : (nI S >>> (nI (c i 4) &&& 31)) &&& nI 1 = zI s := by rw [bit_at hS2 (by omega), hs, zI_nI]
  have go := c_goOverIf (Lx := Lx) (F := F) (A := A) (J := J) hQ (j := nif c i) (by omega) g (d || s) d y
  rw [hX2_doAll_31]
  cases y with
  | true =>
    have hp : 0 < A (Q + 1) (c i 1) := hy.mp rfl
    cases d <;> cases s <;> simp only [Bool.or_true, Bool.or_false, Bool.true_or, Bool.false_or, zIt, zIf] at go hXX b1 b2 <;> simp (disch := omega) only [SX2_doAll_0, SX2_doAll_1, SX2_doAll_2, Gp isP_12, Gm hQ, Om hQ, G22, leN, lep isP_12, hq, ap1 isP_12, ap2 isP_12, ap5 isP_12, hX.1, nI_ltI, hi, hst, hH, hS, x0, x1, x4, b1, b2, nI_eq, nI_e0, a26, hg, am1 hQ, hp, go, nI_add, hXX, eq_self_iff_true, Option.bind_some, Option.bind_none, if_true, if_false, zr0, zr1, one11, one01, one0, one1, Option.toList_some, Option.toList_none, List.cons_append, List.nil_append, Nat.reduceEqDiff, Nat.reduceAdd, not_false_eq_true, not_true_eq_false, and_true, true_and, and_false, false_and, or_true, true_or, or_false, false_or, and_self, or_self, Bool.false_eq_true]
  | false =>
    have hp : ¬ 0 < A (Q + 1) (c i 1) := fun z => by
      have := hy.mpr z
      cases this
    cases d <;> cases s <;> simp only [Bool.or_true, Bool.or_false, Bool.true_or, Bool.false_or, zIt, zIf] at go hXX b1 b2 <;> simp (disch := omega) only [SX2_doAll_0, SX2_doAll_1, SX2_doAll_2, Gp isP_12, Gm hQ, Om hQ, G22, leN, lep isP_12, hq, ap1 isP_12, ap2 isP_12, ap5 isP_12, hX.1, nI_ltI, hi, hst, hH, hS, x0, x1, x4, b1, b2, nI_eq, nI_e0, a26, hg, am1 hQ, hp, go, nI_add, hXX, eq_self_iff_true, Option.bind_some, Option.bind_none, if_true, if_false, zr0, zr1, one11, one01, one0, one1, Option.toList_some, Option.toList_none, List.cons_append, List.nil_append, Nat.reduceEqDiff, Nat.reduceAdd, not_false_eq_true, not_true_eq_false, and_true, true_and, and_false, false_and, or_true, true_or, or_false, false_or, and_self, or_self, Bool.false_eq_true]
end RUN6
