theorem tKc (b : Nat → Nat) (t p : Nat) : tK b t p = 0 ∨ tK b t p = 1 ∨ tK b t p = 2 ∨ tK b t p = 7 ∨ tK b t p = 59 ∨ tK b t p = 123 ∨ tK b t p = 125 := by
  unfold tK
  split
  · omega
  · split
    · omega
    · split
      · split <;> omega
      · split
        · rename_i h; omega
        · omega
theorem sK_le (b : Nat → Nat) (t p : Nat) : sK (tK b t p) ≤ 7 := by
  rcases tKc b t p with h | h | h | h | h | h | h <;> rw [h] <;> decide
theorem sK_1 {b : Nat → Nat} {t p : Nat} : sK (tK b t p) = 1 ↔ tK b t p = 1 := by
  rcases tKc b t p with h | h | h | h | h | h | h <;> rw [h] <;> decide
theorem sK_0 {b : Nat → Nat} {t p : Nat} : sK (tK b t p) = 0 ↔ tK b t p = 0 := by
  rcases tKc b t p with h | h | h | h | h | h | h <;> rw [h] <;> decide
theorem sK_2 {b : Nat → Nat} {t p : Nat} : sK (tK b t p) = 2 ↔ tK b t p = 2 := by
  rcases tKc b t p with h | h | h | h | h | h | h <;> rw [h] <;> decide
theorem sK_3 {b : Nat → Nat} {t p : Nat} : sK (tK b t p) = 3 ↔ tK b t p = 59 := by
  rcases tKc b t p with h | h | h | h | h | h | h <;> rw [h] <;> decide
theorem sK_4 {b : Nat → Nat} {t p : Nat} : sK (tK b t p) = 4 ↔ tK b t p = 123 := by
  rcases tKc b t p with h | h | h | h | h | h | h <;> rw [h] <;> decide
theorem sK_5 {b : Nat → Nat} {t p : Nat} : sK (tK b t p) = 5 ↔ tK b t p = 125 := by
  rcases tKc b t p with h | h | h | h | h | h | h <;> rw [h] <;> decide
/-- the reference has read the token at p -/
def RT (g : Nat → Int32) (b : Nat → Nat) (t p : Nat) : Prop := p ≤ t ∧ g 6 = nI (tE b t p) ∧ g 7 = nI (tS b t p) ∧ (tK b t p ≠ 7 → g 10 = nI 0 ∧ g 8 = nI (sK (tK b t p))) ∧ (tK b t p = 2 → g 9 = nI (tV b t p)) ∧ (tK b t p = 7 → g 10 = nI 1 ∧ g 11 = nI (tS b t p))
/-- it has found a fault -/
def FT (g : Nat → Int32) (e p : Nat) : Prop := 0 < e ∧ e < 10 ∧ g 10 = nI e ∧ g 11 = nI p ∧ ∃ s : Nat, s ≤ 320 ∧ g 7 = nI s
def GO (g : Nat → Int32) (b : Nat → Nat) (t : Nat) (R : Bool × Nat × Nat) : Prop := (R.1 = true → RT g b t R.2.2) ∧ (R.1 = false → FT g R.2.1 R.2.2)
def fr6 (g f : Nat → Int32) : Prop := ∀ q, q ≠ 6 → q ≠ 7 → q ≠ 8 → q ≠ 9 → q ≠ 10 → q ≠ 11 → f q = g q
theorem fr6.tr {g f h : Nat → Int32} (h1 : fr6 g f) (h2 : fr6 f h) : fr6 g h := fun q a1 a2 a3 a4 a5 a6 => (h2 q a1 a2 a3 a4 a5 a6).trans (h1 q a1 a2 a3 a4 a5 a6)
theorem rdd.rt {g f : Nat → Int32} {b : Nat → Nat} {t p : Nat} (h : rdd g f b t p) (hp : p ≤ t) : RT f b t p ∧ fr6 g f := ⟨⟨hp, h.1, h.2.1, h.2.2.1, h.2.2.2.1, h.2.2.2.2.1⟩, h.2.2.2.2.2⟩
theorem RT.ft {g : Nat → Int32} {b : Nat → Nat} {t p : Nat} (h : RT g b t p) (ht : t ≤ 320) (k7 : tK b t p = 7) : FT g 1 (tS b t p) := by
  have hl := t_le (b := b) h.1
  obtain ⟨a1, a2⟩ := h.2.2.2.2.2 k7
  exact ⟨by decide, by decide, a1, a2, tS b t p, by omega, h.2.2.1⟩
section ITEMS
variable {Lx : Nat} {F A : Nat → Nat → Int32} {J : Nat → Nat → Int64} {b : Nat → Nat} {t : Nat}
theorem c_is (h : tpM F A b t) {s e w0 w1 w2 : Nat} (hw0 : w0 < 128) (hw1 : w1 < 128) (hw2 : w2 < 128) (h6 : F 56 6 = nI e) (h7 : F 56 7 = nI s) (hs : s ≤ e) (he : e ≤ t) : dcall mX7_is [.ref 56, .int (nI w0), .int (nI w1), .int (nI w2)] (mk Lx F A J) = some (some (.int (if e - s = 3 ∧ b s = w0 ∧ b (s + 1) = w1 ∧ b (s + 2) = w2 then nI 1 else nI 0)), mk Lx F A J) := by
  have ht := h.1
  by_cases e3 : e - s = 3
  · have b0 := c_byteAt (Lx := Lx) (J := J) h (p := s) (by omega)
    have b1 := c_byteAt (Lx := Lx) (J := J) h (p := s + 1) (by omega)
    have b2 := c_byteAt (Lx := Lx) (J := J) h (p := s + 2) (by omega)
    unfold bv at b0 b1 b2
    rw [if_pos (by omega)] at b0 b1 b2
    have l0 := (h.2.2 s (by omega)).1
    have l1 := (h.2.2 (s + 1) (by omega)).1
    have l2 := (h.2.2 (s + 2) (by omega)).1
    by_cases c0 : b s = w0
    · by_cases c1 : b (s + 1) = w1
      · by_cases c2 : b (s + 2) = w2
        · rw [if_pos ⟨e3, c0, c1, c2⟩]
          simp (disch := omega) only [CX7_is, SX7_is, G56, O56, h6, h7, nI_s, nI_add, e3, b0, b1, b2, c0, c1, c2, eq_self_iff_true, Option.bind_some, Option.bind_none, if_true, if_false, zr0, zr1, one11, one01, one0, one1, Option.toList_some, Option.toList_none, List.cons_append, List.nil_append, Nat.reduceEqDiff, Nat.reduceAdd, not_false_eq_true, not_true_eq_false, and_true, true_and, and_false, false_and, or_true, true_or, or_false, false_or, and_self, or_self, Bool.false_eq_true]
        · rw [if_neg (fun y => c2 y.2.2.2)]
          simp (disch := omega) only [CX7_is, SX7_is, G56, O56, h6, h7, nI_s, nI_add, e3, b0, b1, b2, c0, c1, nI_eq, c2, eq_self_iff_true, Option.bind_some, Option.bind_none, if_true, if_false, zr0, zr1, one11, one01, one0, one1, Option.toList_some, Option.toList_none, List.cons_append, List.nil_append, Nat.reduceEqDiff, Nat.reduceAdd, not_false_eq_true, not_true_eq_false, and_true, true_and, and_false, false_and, or_true, true_or, or_false, false_or, and_self, or_self, Bool.false_eq_true]
      · rw [if_neg (fun y => c1 y.2.2.1)]
        simp (disch := omega) only [CX7_is, SX7_is, G56, O56, h6, h7, nI_s, nI_add, e3, b0, b1, c0, nI_eq, c1, eq_self_iff_true, Option.bind_some, Option.bind_none, if_true, if_false, zr0, zr1, one11, one01, one0, one1, Option.toList_some, Option.toList_none, List.cons_append, List.nil_append, Nat.reduceEqDiff, Nat.reduceAdd, not_false_eq_true, not_true_eq_false, and_true, true_and, and_false, false_and, or_true, true_or, or_false, false_or, and_self, or_self, Bool.false_eq_true]
    · rw [if_neg (fun y => c0 y.2.1)]
      simp (disch := omega) only [CX7_is, SX7_is, G56, O56, h6, h7, nI_s, nI_add, e3, b0, nI_eq, c0, eq_self_iff_true, Option.bind_some, Option.bind_none, if_true, if_false, zr0, zr1, one11, one01, one0, one1, Option.toList_some, Option.toList_none, List.cons_append, List.nil_append, Nat.reduceEqDiff, Nat.reduceAdd, not_false_eq_true, not_true_eq_false, and_true, true_and, and_false, false_and, or_true, true_or, or_false, false_or, and_self, or_self, Bool.false_eq_true]
  · rw [if_neg (fun y => e3 y.1)]
    simp (disch := omega) only [CX7_is, SX7_is, G56, h6, h7, nI_s, nI_eq, e3, Option.bind_some, Option.bind_none, if_true, if_false, zr0, zr1, one11, one01, one0, one1, Option.toList_some, Option.toList_none, List.cons_append, List.nil_append, Nat.reduceEqDiff, Nat.reduceAdd, not_false_eq_true, not_true_eq_false, and_true, true_and, and_false, false_and, or_true, true_or, or_false, false_or, and_self, or_self, Bool.false_eq_true]
theorem c_kindNow (h : tpM F A b t) {p : Nat} (hr : RT (F 56) b t p) (k7 : tK b t p ≠ 7) : dcall mX7_kindNow [.ref 56] (mk Lx F A J) = some (some (.int (if tK b t p = 1 ∧ kn b (tS b t p) (tE b t p) ≠ 6 then nI (kn b (tS b t p) (tE b t p)) else (-4))), mk Lx F A J) := by
  have ht := h.1
  obtain ⟨hp, h6, h7, h10, -⟩ := hr
  obtain ⟨-, h8⟩ := h10 k7
  have hl := t_le (b := b) hp
  have sl := sK_le b t p
  by_cases k1 : tK b t p = 1
  · have s1 := sK_1.mpr k1
    rw [s1] at h8
    have n0 := c_is (Lx := Lx) (J := J) h (w0 := 112) (w1 := 117) (w2 := 116) (by decide) (by decide) (by decide) h6 h7 hl.2.1 hl.2.2.1
    have n1 := c_is (Lx := Lx) (J := J) h (w0 := 97) (w1 := 100) (w2 := 100) (by decide) (by decide) (by decide) h6 h7 hl.2.1 hl.2.2.1
    have n2 := c_is (Lx := Lx) (J := J) h (w0 := 115) (w1 := 117) (w2 := 98) (by decide) (by decide) (by decide) h6 h7 hl.2.1 hl.2.2.1
    have n3 := c_is (Lx := Lx) (J := J) h (w0 := 109) (w1 := 117) (w2 := 108) (by decide) (by decide) (by decide) h6 h7 hl.2.1 hl.2.2.1
    have n4 := c_is (Lx := Lx) (J := J) h (w0 := 100) (w1 := 105) (w2 := 118) (by decide) (by decide) (by decide) h6 h7 hl.2.1 hl.2.2.1
    unfold kn
    by_cases c0 : tE b t p - tS b t p = 3 ∧ b (tS b t p) = 112 ∧ b (tS b t p + 1) = 117 ∧ b (tS b t p + 2) = 116
    · rw [if_pos c0] at n0 ⊢
      rw [if_pos ⟨k1, by decide⟩]
      simp (disch := omega) only [CX7_kindNow, SX7_kindNow_0, SX7_kindNow_1, G56, O56, h8, n0, eq_self_iff_true, Option.bind_some, Option.bind_none, if_true, if_false, zr0, zr1, one11, one01, one0, one1, Option.toList_some, Option.toList_none, List.cons_append, List.nil_append, Nat.reduceEqDiff, Nat.reduceAdd, not_false_eq_true, not_true_eq_false, and_true, true_and, and_false, false_and, or_true, true_or, or_false, false_or, and_self, or_self, Bool.false_eq_true]
    · rw [if_neg c0] at n0 ⊢
      by_cases c1 : tE b t p - tS b t p = 3 ∧ b (tS b t p) = 97 ∧ b (tS b t p + 1) = 100 ∧ b (tS b t p + 2) = 100
      · rw [if_pos c1] at n1 ⊢
        rw [if_pos ⟨k1, by decide⟩]
        simp (disch := omega) only [CX7_kindNow, SX7_kindNow_0, SX7_kindNow_1, G56, O56, h8, n0, n1, eq_self_iff_true, Option.bind_some, Option.bind_none, if_true, if_false, zr0, zr1, one11, one01, one0, one1, Option.toList_some, Option.toList_none, List.cons_append, List.nil_append, Nat.reduceEqDiff, Nat.reduceAdd, not_false_eq_true, not_true_eq_false, and_true, true_and, and_false, false_and, or_true, true_or, or_false, false_or, and_self, or_self, Bool.false_eq_true]
      · rw [if_neg c1] at n1 ⊢
        by_cases c2 : tE b t p - tS b t p = 3 ∧ b (tS b t p) = 115 ∧ b (tS b t p + 1) = 117 ∧ b (tS b t p + 2) = 98
        · rw [if_pos c2] at n2 ⊢
          rw [if_pos ⟨k1, by decide⟩]
          simp (disch := omega) only [CX7_kindNow, SX7_kindNow_0, SX7_kindNow_1, G56, O56, h8, n0, n1, n2, eq_self_iff_true, Option.bind_some, Option.bind_none, if_true, if_false, zr0, zr1, one11, one01, one0, one1, Option.toList_some, Option.toList_none, List.cons_append, List.nil_append, Nat.reduceEqDiff, Nat.reduceAdd, not_false_eq_true, not_true_eq_false, and_true, true_and, and_false, false_and, or_true, true_or, or_false, false_or, and_self, or_self, Bool.false_eq_true]
        · rw [if_neg c2] at n2 ⊢
          by_cases c3 : tE b t p - tS b t p = 3 ∧ b (tS b t p) = 109 ∧ b (tS b t p + 1) = 117 ∧ b (tS b t p + 2) = 108
          · rw [if_pos c3] at n3 ⊢
            rw [if_pos ⟨k1, by decide⟩]
            simp (disch := omega) only [CX7_kindNow, SX7_kindNow_0, SX7_kindNow_1, G56, O56, h8, n0, n1, n2, n3, eq_self_iff_true, Option.bind_some, Option.bind_none, if_true, if_false, zr0, zr1, one11, one01, one0, one1, Option.toList_some, Option.toList_none, List.cons_append, List.nil_append, Nat.reduceEqDiff, Nat.reduceAdd, not_false_eq_true, not_true_eq_false, and_true, true_and, and_false, false_and, or_true, true_or, or_false, false_or, and_self, or_self, Bool.false_eq_true]
          · rw [if_neg c3] at n3 ⊢
            by_cases c4 : tE b t p - tS b t p = 3 ∧ b (tS b t p) = 100 ∧ b (tS b t p + 1) = 105 ∧ b (tS b t p + 2) = 118
            · rw [if_pos c4] at n4 ⊢
              rw [if_pos ⟨k1, by decide⟩]
              simp (disch := omega) only [CX7_kindNow, SX7_kindNow_0, SX7_kindNow_1, G56, O56, h8, n0, n1, n2, n3, n4, eq_self_iff_true, Option.bind_some, Option.bind_none, if_true, if_false, zr0, zr1, one11, one01, one0, one1, Option.toList_some, Option.toList_none, List.cons_append, List.nil_append, Nat.reduceEqDiff, Nat.reduceAdd, not_false_eq_true, not_true_eq_false, and_true, true_and, and_false, false_and, or_true, true_or, or_false, false_or, and_self, or_self, Bool.false_eq_true]
            · rw [if_neg c4] at n4 ⊢
              by_cases e2 : tE b t p - tS b t p = 2
              · have b0 := c_byteAt (Lx := Lx) (J := J) h (p := tS b t p) (by omega)
                have b1 := c_byteAt (Lx := Lx) (J := J) h (p := tS b t p + 1) (by omega)
                unfold bv at b0 b1
                rw [if_pos (by omega)] at b0 b1
                have l0 := (h.2.2 (tS b t p) (by omega)).1
                have l1 := (h.2.2 (tS b t p + 1) (by omega)).1
                by_cases d0 : b (tS b t p) = 105
                · by_cases d1 : b (tS b t p + 1) = 102
                  · rw [if_pos (c := tE b t p - tS b t p = 2 ∧ b (tS b t p) = 105 ∧ b (tS b t p + 1) = 102) ⟨e2, d0, d1⟩, if_pos ⟨k1, by decide⟩]
                    rw [d0] at b0
                    rw [d1] at b1
                    simp (disch := omega) only [CX7_kindNow, SX7_kindNow_0, SX7_kindNow_1, G56, O56, h6, h7, h8, n0, n1, n2, n3, n4, nI_s, nI_add, e2, b0, b1, eq_self_iff_true, Option.bind_some, Option.bind_none, if_true, if_false, zr0, zr1, one11, one01, one0, one1, Option.toList_some, Option.toList_none, List.cons_append, List.nil_append, Nat.reduceEqDiff, Nat.reduceAdd, not_false_eq_true, not_true_eq_false, and_true, true_and, and_false, false_and, or_true, true_or, or_false, false_or, and_self, or_self, Bool.false_eq_true]
                  · rw [if_neg (c := tE b t p - tS b t p = 2 ∧ b (tS b t p) = 105 ∧ b (tS b t p + 1) = 102) (fun y => d1 y.2.2), if_neg (fun y => y.2 rfl)]
                    rw [d0] at b0
                    simp (disch := omega) only [CX7_kindNow, SX7_kindNow_0, SX7_kindNow_1, G56, O56, h6, h7, h8, n0, n1, n2, n3, n4, nI_s, nI_add, e2, b0, b1, nI_eq, d1, eq_self_iff_true, Option.bind_some, Option.bind_none, if_true, if_false, zr0, zr1, one11, one01, one0, one1, Option.toList_some, Option.toList_none, List.cons_append, List.nil_append, Nat.reduceEqDiff, Nat.reduceAdd, not_false_eq_true, not_true_eq_false, and_true, true_and, and_false, false_and, or_true, true_or, or_false, false_or, and_self, or_self, Bool.false_eq_true]
                · rw [if_neg (c := tE b t p - tS b t p = 2 ∧ b (tS b t p) = 105 ∧ b (tS b t p + 1) = 102) (fun y => d0 y.2.1), if_neg (fun y => y.2 rfl)]
                  simp (disch := omega) only [CX7_kindNow, SX7_kindNow_0, SX7_kindNow_1, G56, O56, h6, h7, h8, n0, n1, n2, n3, n4, nI_s, nI_add, e2, b0, nI_eq, d0, eq_self_iff_true, Option.bind_some, Option.bind_none, if_true, if_false, zr0, zr1, one11, one01, one0, one1, Option.toList_some, Option.toList_none, List.cons_append, List.nil_append, Nat.reduceEqDiff, Nat.reduceAdd, not_false_eq_true, not_true_eq_false, and_true, true_and, and_false, false_and, or_true, true_or, or_false, false_or, and_self, or_self, Bool.false_eq_true]
              · rw [if_neg (c := tE b t p - tS b t p = 2 ∧ b (tS b t p) = 105 ∧ b (tS b t p + 1) = 102) (fun y => e2 y.1), if_neg (fun y => y.2 rfl)]
                simp (disch := omega) only [CX7_kindNow, SX7_kindNow_0, SX7_kindNow_1, G56, O56, h6, h7, h8, n0, n1, n2, n3, n4, nI_s, nI_add, nI_eq, e2, eq_self_iff_true, Option.bind_some, Option.bind_none, if_true, if_false, zr0, zr1, one11, one01, one0, one1, Option.toList_some, Option.toList_none, List.cons_append, List.nil_append, Nat.reduceEqDiff, Nat.reduceAdd, not_false_eq_true, not_true_eq_false, and_true, true_and, and_false, false_and, or_true, true_or, or_false, false_or, and_self, or_self, Bool.false_eq_true]
  · rw [if_neg (fun y => k1 y.1)]
    have s1 : ¬ sK (tK b t p) = 1 := fun z => k1 (sK_1.mp z)
    simp (disch := omega) only [CX7_kindNow, SX7_kindNow_0, SX7_kindNow_1, G56, h8, nI_eq, s1, Option.bind_some, Option.bind_none, if_true, if_false, zr0, zr1, one11, one01, one0, one1, Option.toList_some, Option.toList_none, List.cons_append, List.nil_append, Nat.reduceEqDiff, Nat.reduceAdd, not_false_eq_true, not_true_eq_false, and_true, true_and, and_false, false_and, or_true, true_or, or_false, false_or, and_self, or_self, Bool.false_eq_true]
end ITEMS
