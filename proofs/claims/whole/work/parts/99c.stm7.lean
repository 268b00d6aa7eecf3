def bR (R : Bool × Nat × Nat) (k : Nat → Bool × Nat × Nat) : Bool × Nat × Nat := if R.1 = false then R else k R.2.2
theorem bR_stm (b : Nat → Nat) (t kd e : Nat) : bR (bR (bR (vr b t e) (st2 b t kd)) (st3 b t kd)) (sg b t (if kd = 5 then 123 else 59)) = stm b t kd e := by
  unfold stm bR
  by_cases c1 : (vr b t e).1 = false
  · simp only [if_pos c1]
  · simp only [if_neg c1]
    have e2 : st2 b t kd (vr b t e).2.2 = r2 b t kd e := rfl
    rw [e2]
    by_cases c2 : (r2 b t kd e).1 = false
    · simp only [if_pos c2]
    · simp only [if_neg c2]
      have e3 : st3 b t kd (r2 b t kd e).2.2 = r3 b t kd e := rfl
      rw [e3]
      by_cases c3 : (r3 b t kd e).1 = false
      · simp only [if_pos c3]
      · simp only [if_neg c3]
        rfl
section STM7
variable {Lx : Nat} {F A : Nat → Nat → Int32} {J : Nat → Nat → Int64} {b : Nat → Nat} {t n d : Nat} {c : Nat → Nat → Nat} {o : Nat → Nat}
theorem c_rv (h : tpM F A b t) {g : Nat → Int32} (h5 : g 5 = nI t) {R : Bool × Nat × Nat} (hg : GO g b t R) : ∃ f x, dcall mX7_readVariable [.ref 56] (mk Lx (up F 56 g) A J) = some (some (.int x), mk Lx (up F 56 f) A J) ∧ GO f b t (bR R (vr b t)) ∧ fr6 g f ∧ (R.1 = true → (vr b t R.2.2).1 = true → x = nI (vr b t R.2.2).2.1) := by
  unfold bR
  by_cases hR : R.1 = false
  · obtain ⟨x, e⟩ := c_readVariableF (Lx := Lx) (J := J) (h.fr h5) (e := R.2.1) (q := R.2.2) (by rw [up_eq]; exact hg.2 hR)
    rw [if_pos hR]
    exact ⟨g, x, e, hg, fun _ _ _ _ _ _ _ => rfl, fun z => absurd (z.symm.trans hR) (by decide)⟩
  · have hRt : R.1 = true := by simpa using hR
    obtain ⟨f, x, e1, e2, e3, e4⟩ := c_readVariable (Lx := Lx) (J := J) (h.fr h5) (p := R.2.2) (by rw [up_eq]; exact hg.1 hRt)
    rw [up_up] at e1
    rw [up_eq] at e3
    rw [if_neg hR]
    exact ⟨f, x, e1, e2, e3, fun _ => e4⟩
theorem c_rn (h : tpM F A b t) {g : Nat → Int32} (h5 : g 5 = nI t) {m : Nat} (hm : m ≤ 99) {R : Bool × Nat × Nat} (hg : GO g b t R) : ∃ f x, dcall mX7_readNumber [.ref 56, .int (nI 0), .int (nI m)] (mk Lx (up F 56 g) A J) = some (some (.int x), mk Lx (up F 56 f) A J) ∧ GO f b t (bR R (nm b t m)) ∧ fr6 g f ∧ (R.1 = true → (nm b t m R.2.2).1 = true → x = nI (nm b t m R.2.2).2.1) := by
  unfold bR
  by_cases hR : R.1 = false
  · have e := c_readNumberF (Lx := Lx) (A := A) (J := J) (F := up F 56 g) (e := R.2.1) (q := R.2.2) (by rw [up_eq]; exact hg.2 hR) (nI 0) (nI m)
    rw [if_pos hR]
    exact ⟨g, nI 0, e, hg, fun _ _ _ _ _ _ _ => rfl, fun z => absurd (z.symm.trans hR) (by decide)⟩
  · have hRt : R.1 = true := by simpa using hR
    obtain ⟨f, x, e1, e2, e3, e4⟩ := c_readNumber (Lx := Lx) (J := J) (h.fr h5) (p := R.2.2) hm (by rw [up_eq]; exact hg.1 hRt)
    rw [up_up] at e1
    rw [up_eq] at e3
    rw [if_neg hR]
    exact ⟨f, x, e1, e2, e3, fun _ => e4⟩
theorem c_tk (h : tpM F A b t) {g : Nat → Int32} (h5 : g 5 = nI t) {x y : Nat} (hxy : (x = 59 ∧ y = 3) ∨ (x = 123 ∧ y = 4)) {R : Bool × Nat × Nat} (hg : GO g b t R) : ∃ f, dcall mX7_takes [.ref 56, .int (nI y)] (mk Lx (up F 56 g) A J) = some (none, mk Lx (up F 56 f) A J) ∧ GO f b t (bR R (sg b t x)) ∧ fr6 g f := by
  unfold bR
  by_cases hR : R.1 = false
  · have e := c_takesF (Lx := Lx) (A := A) (J := J) (F := up F 56 g) (e := R.2.1) (q := R.2.2) (by rw [up_eq]; exact hg.2 hR) (nI y)
    rw [if_pos hR]
    exact ⟨g, e, hg, fun _ _ _ _ _ _ _ => rfl⟩
  · have hRt : R.1 = true := by simpa using hR
    obtain ⟨f, e1, e2, e3⟩ := c_takes (Lx := Lx) (J := J) (h.fr h5) (p := R.2.2) hxy (by rw [up_eq]; exact hg.1 hRt)
    rw [up_up] at e1
    rw [up_eq] at e3
    rw [if_neg hR]
    exact ⟨f, e1, e2, e3⟩
/-- the reference while it reads -/
def cm (F A : Nat → Nat → Int32) (b : Nat → Nat) (t n : Nat) (c : Nat → Nat → Nat) (d : Nat) (o : Nat → Nat) : Prop := tpM F A b t ∧ M0 (A 60) n c (fun _ => 2) 255 ∧ (∀ j, j < 6 → A 60 (122 + j) = nI 2) ∧ (∀ s, 5 * n ≤ s → s < 120 → A 60 s = nI 0) ∧ F 56 13 = nI d ∧ F 56 14 = nI (nif c n) ∧ ∀ i, i < d → A 62 i = nI (o i)
theorem c_st7B1 (h : cm F A b t n c d o) {p : Nat} (hn : n ≤ 24) (hr : RT (F 56) b t p) (k7 : tK b t p ≠ 7) (hk : ¬ (tK b t p = 1 ∧ kn b (tS b t p) (tE b t p) ≠ 6)) : dcall mX7_readStatement [.ref 56] (mk Lx F A J) = some (none, mk Lx (up F 56 (up (up (F 56) 10 (nI 2)) 11 (nI (tS b t p)))) A J) := by
  have kk := c_kindNow (Lx := Lx) (J := J) h.1 hr k7
  rw [if_neg hk] at kk
  have g10 := (hr.2.2.2.1 k7).1
  have rq := c_reqN (Lx := Lx) (A := A) (J := J) (nI 2) g10
  rw [hr.2.2.1] at rq
  have rf := fun x => c_reqF (Lx := Lx) (A := A) (J := J) (F := up F 56 (up (up (F 56) 10 (nI 2)) 11 (nI (tS b t p)))) (nI 5) x (e := 2) (by decide) (by decide) (by simp (disch := omega) only [up_eq, up_ne])
  have g2 : 0 < nI 2 := by decide
  have n5 : ¬ (-4 : Int32) = nI 5 := by decide
  by_cases h24 : n < 24
  · simp (disch := omega) only [CX7_readStatement, SX7_readStatement_0, SX7_readStatement_1, G56, O56, leN, kk, m44, rq, a60, h.2.1.1, nI_ltI, h24, rf, n5, up_eq, up_ne, g2, Option.bind_some, Option.bind_none, if_true, if_false, zr0, zr1, one11, one01, one0, one1, Option.toList_some, Option.toList_none, List.cons_append, List.nil_append, Nat.reduceEqDiff, Nat.reduceAdd, not_false_eq_true, not_true_eq_false, and_true, true_and, and_false, false_and, or_true, true_or, or_false, false_or, and_self, or_self, Bool.false_eq_true]
  · simp (disch := omega) only [CX7_readStatement, SX7_readStatement_0, SX7_readStatement_1, G56, O56, leN, kk, m44, rq, a60, h.2.1.1, nI_ltI, h24, rf, n5, up_eq, up_ne, g2, Option.bind_some, Option.bind_none, if_true, if_false, zr0, zr1, one11, one01, one0, one1, Option.toList_some, Option.toList_none, List.cons_append, List.nil_append, Nat.reduceEqDiff, Nat.reduceAdd, not_false_eq_true, not_true_eq_false, and_true, true_and, and_false, false_and, or_true, true_or, or_false, false_or, and_self, or_self, Bool.false_eq_true]
theorem c_st7B2 (h : cm F A b t n c d o) {p : Nat} (hn : n ≤ 24) (h6 : nif c n ≤ 6) (hr : RT (F 56) b t p) (k1 : tK b t p = 1) (hk6 : kn b (tS b t p) (tE b t p) ≠ 6) (hrm : ¬ (n < 24 ∧ (kn b (tS b t p) (tE b t p) = 5 → nif c n < 6))) : dcall mX7_readStatement [.ref 56] (mk Lx F A J) = some (none, mk Lx (up F 56 (up (up (F 56) 10 (nI 5)) 11 (nI (tS b t p)))) A J) := by
  have k7 : tK b t p ≠ 7 := by omega
  have kk := c_kindNow (Lx := Lx) (J := J) h.1 hr k7
  rw [if_pos ⟨k1, hk6⟩] at kk
  have kl := kn_le (b := b) (tS b t p) (tE b t p)
  have n4 : ¬ nI (kn b (tS b t p) (tE b t p)) = (-4) := nI_m4 (by omega)
  have g10 := (hr.2.2.2.1 k7).1
  have rq := c_reqN (Lx := Lx) (A := A) (J := J) (nI 5) g10
  rw [hr.2.2.1] at rq
  have rf := fun x => c_reqF (Lx := Lx) (A := A) (J := J) (F := up F 56 (up (up (F 56) 10 (nI 5)) 11 (nI (tS b t p)))) (nI 5) x (e := 5) (by decide) (by decide) (by simp (disch := omega) only [up_eq, up_ne])
  have g5 : 0 < nI 5 := by decide
  have h14 := h.2.2.2.2.2.1
  by_cases h24 : n < 24
  · have k5 : kn b (tS b t p) (tE b t p) = 5 := by
      apply Classical.byContradiction
      intro z
      exact hrm ⟨h24, fun y => absurd y z⟩
    have l6 : ¬ nif c n < 6 := fun z => hrm ⟨h24, fun _ => z⟩
    rw [k5] at kk n4
    simp (disch := omega) only [CX7_readStatement, SX7_readStatement_0, SX7_readStatement_1, G56, O56, leN, kk, n4, c_reqY, a60, h.2.1.1, nI_ltI, h24, h14, l6, rq, up_eq, up_ne, g5, eq_self_iff_true, Option.bind_some, Option.bind_none, if_true, if_false, zr0, zr1, one11, one01, one0, one1, Option.toList_some, Option.toList_none, List.cons_append, List.nil_append, Nat.reduceEqDiff, Nat.reduceAdd, not_false_eq_true, not_true_eq_false, and_true, true_and, and_false, false_and, or_true, true_or, or_false, false_or, and_self, or_self, Bool.false_eq_true]
  · by_cases k5 : kn b (tS b t p) (tE b t p) = 5
    · rw [k5] at kk n4
      by_cases l6 : nif c n < 6
      · simp (disch := omega) only [CX7_readStatement, SX7_readStatement_0, SX7_readStatement_1, G56, O56, leN, kk, n4, c_reqY, a60, h.2.1.1, nI_ltI, h24, h14, l6, rq, rf, up_eq, up_ne, g5, eq_self_iff_true, Option.bind_some, Option.bind_none, if_true, if_false, zr0, zr1, one11, one01, one0, one1, Option.toList_some, Option.toList_none, List.cons_append, List.nil_append, Nat.reduceEqDiff, Nat.reduceAdd, not_false_eq_true, not_true_eq_false, and_true, true_and, and_false, false_and, or_true, true_or, or_false, false_or, and_self, or_self, Bool.false_eq_true]
      · simp (disch := omega) only [CX7_readStatement, SX7_readStatement_0, SX7_readStatement_1, G56, O56, leN, kk, n4, c_reqY, a60, h.2.1.1, nI_ltI, h24, h14, l6, rq, rf, up_eq, up_ne, g5, eq_self_iff_true, Option.bind_some, Option.bind_none, if_true, if_false, zr0, zr1, one11, one01, one0, one1, Option.toList_some, Option.toList_none, List.cons_append, List.nil_append, Nat.reduceEqDiff, Nat.reduceAdd, not_false_eq_true, not_true_eq_false, and_true, true_and, and_false, false_and, or_true, true_or, or_false, false_or, and_self, or_self, Bool.false_eq_true]
    · simp (disch := omega) only [CX7_readStatement, SX7_readStatement_0, SX7_readStatement_1, G56, O56, leN, kk, n4, c_reqY, a60, h.2.1.1, nI_ltI, h24, nI_eq, k5, rq, rf, up_eq, up_ne, g5, Option.bind_some, Option.bind_none, if_true, if_false, zr0, zr1, one11, one01, one0, one1, Option.toList_some, Option.toList_none, List.cons_append, List.nil_append, Nat.reduceEqDiff, Nat.reduceAdd, not_false_eq_true, not_true_eq_false, and_true, true_and, and_false, false_and, or_true, true_or, or_false, false_or, and_self, or_self, Bool.false_eq_true]
end STM7
