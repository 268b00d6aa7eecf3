/-! the words -/
def kn (b : Nat → Nat) (s e : Nat) : Nat := if e - s = 3 ∧ b s = 112 ∧ b (s + 1) = 117 ∧ b (s + 2) = 116 then 0 else if e - s = 3 ∧ b s = 97 ∧ b (s + 1) = 100 ∧ b (s + 2) = 100 then 1 else if e - s = 3 ∧ b s = 115 ∧ b (s + 1) = 117 ∧ b (s + 2) = 98 then 2 else if e - s = 3 ∧ b s = 109 ∧ b (s + 1) = 117 ∧ b (s + 2) = 108 then 3 else if e - s = 3 ∧ b s = 100 ∧ b (s + 1) = 105 ∧ b (s + 2) = 118 then 4 else if e - s = 2 ∧ b s = 105 ∧ b (s + 1) = 102 then 5 else 6
theorem jl0 (σ : dS) : dcall mJ0_length_8abf5 [.ref (dN + 1 + 0)] σ = some (some (.int (nI 3)), σ) := rfl
theorem jl1 (σ : dS) : dcall mJ0_length_8abf5 [.ref (dN + 1 + 1)] σ = some (some (.int (nI 3)), σ) := rfl
theorem jl2 (σ : dS) : dcall mJ0_length_8abf5 [.ref (dN + 1 + 2)] σ = some (some (.int (nI 3)), σ) := rfl
theorem jl3 (σ : dS) : dcall mJ0_length_8abf5 [.ref (dN + 1 + 3)] σ = some (some (.int (nI 3)), σ) := rfl
theorem jl4 (σ : dS) : dcall mJ0_length_8abf5 [.ref (dN + 1 + 4)] σ = some (some (.int (nI 3)), σ) := rfl
theorem jl5 (σ : dS) : dcall mJ0_length_8abf5 [.ref (dN + 1 + 5)] σ = some (some (.int (nI 2)), σ) := rfl
theorem jc00 (σ : dS) : dcall mJ0_charAt_5068e [.ref (dN + 1 + 0), .int (nI 0)] σ = some (some (.int (nI 112)), σ) := rfl
theorem jc01 (σ : dS) : dcall mJ0_charAt_5068e [.ref (dN + 1 + 0), .int (nI 1)] σ = some (some (.int (nI 117)), σ) := rfl
theorem jc02 (σ : dS) : dcall mJ0_charAt_5068e [.ref (dN + 1 + 0), .int (nI 2)] σ = some (some (.int (nI 116)), σ) := rfl
theorem jc10 (σ : dS) : dcall mJ0_charAt_5068e [.ref (dN + 1 + 1), .int (nI 0)] σ = some (some (.int (nI 97)), σ) := rfl
theorem jc11 (σ : dS) : dcall mJ0_charAt_5068e [.ref (dN + 1 + 1), .int (nI 1)] σ = some (some (.int (nI 100)), σ) := rfl
theorem jc12 (σ : dS) : dcall mJ0_charAt_5068e [.ref (dN + 1 + 1), .int (nI 2)] σ = some (some (.int (nI 100)), σ) := rfl
theorem jc20 (σ : dS) : dcall mJ0_charAt_5068e [.ref (dN + 1 + 2), .int (nI 0)] σ = some (some (.int (nI 115)), σ) := rfl
theorem jc21 (σ : dS) : dcall mJ0_charAt_5068e [.ref (dN + 1 + 2), .int (nI 1)] σ = some (some (.int (nI 117)), σ) := rfl
theorem jc22 (σ : dS) : dcall mJ0_charAt_5068e [.ref (dN + 1 + 2), .int (nI 2)] σ = some (some (.int (nI 98)), σ) := rfl
theorem jc30 (σ : dS) : dcall mJ0_charAt_5068e [.ref (dN + 1 + 3), .int (nI 0)] σ = some (some (.int (nI 109)), σ) := rfl
theorem jc31 (σ : dS) : dcall mJ0_charAt_5068e [.ref (dN + 1 + 3), .int (nI 1)] σ = some (some (.int (nI 117)), σ) := rfl
theorem jc32 (σ : dS) : dcall mJ0_charAt_5068e [.ref (dN + 1 + 3), .int (nI 2)] σ = some (some (.int (nI 108)), σ) := rfl
theorem jc40 (σ : dS) : dcall mJ0_charAt_5068e [.ref (dN + 1 + 4), .int (nI 0)] σ = some (some (.int (nI 100)), σ) := rfl
theorem jc41 (σ : dS) : dcall mJ0_charAt_5068e [.ref (dN + 1 + 4), .int (nI 1)] σ = some (some (.int (nI 105)), σ) := rfl
theorem jc42 (σ : dS) : dcall mJ0_charAt_5068e [.ref (dN + 1 + 4), .int (nI 2)] σ = some (some (.int (nI 118)), σ) := rfl
theorem jc50 (σ : dS) : dcall mJ0_charAt_5068e [.ref (dN + 1 + 5), .int (nI 0)] σ = some (some (.int (nI 105)), σ) := rfl
theorem jc51 (σ : dS) : dcall mJ0_charAt_5068e [.ref (dN + 1 + 5), .int (nI 1)] σ = some (some (.int (nI 102)), σ) := rfl
section NAME6
variable {Lx : Nat} {F A : Nat → Nat → Int32} {J : Nat → Nat → Int64} {b : Nat → Nat} {t : Nat}
theorem c_nameIs3 (h : tpX F A b t) {s e q w0 w1 w2 : Nat} (hq : dN + 1 ≤ q ∧ q < dN + 7) (hw0 : w0 < 128) (hw1 : w1 < 128) (hw2 : w2 < 128) (jl : ∀ σ, dcall mJ0_length_8abf5 [.ref q] σ = some (some (.int (nI 3)), σ)) (j0 : ∀ σ, dcall mJ0_charAt_5068e [.ref q, .int (nI 0)] σ = some (some (.int (nI w0)), σ)) (j1 : ∀ σ, dcall mJ0_charAt_5068e [.ref q, .int (nI 1)] σ = some (some (.int (nI w1)), σ)) (j2 : ∀ σ, dcall mJ0_charAt_5068e [.ref q, .int (nI 2)] σ = some (some (.int (nI w2)), σ)) (h6 : F 1 6 = nI s) (h7 : F 1 7 = nI e) (hs : s ≤ e) (he : e ≤ t) : dcall mX5_nameIs [.ref 1, .ref q] (mk Lx F A J) = some (some (.int (if e - s = 3 ∧ b s = w0 ∧ b (s + 1) = w1 ∧ b (s + 2) = w2 then nI 1 else nI 0)), mk Lx F A J) := by
  have ht := h.1
  by_cases e3 : e - s = 3
  · obtain ⟨b7, b1⟩ := h.2.2 s (by omega)
    obtain ⟨b7', b1'⟩ := h.2.2 (s + 1) (by omega)
    obtain ⟨b7'', b1''⟩ := h.2.2 (s + 2) (by omega)
    have i0 : (0 : Nat) < 3 := by decide
    have i1 : (1 : Nat) < 3 := by decide
    have i2 : (2 : Nat) < 3 := by decide
    have i3 : ¬ (3 : Nat) < 3 := by decide
    have z0 : s + 0 = s := rfl
    have p1 : (0 : Nat) + 1 = 1 := rfl
    have p2 : (1 : Nat) + 1 = 2 := rfl
    have p3 : (2 : Nat) + 1 = 3 := rfl
    by_cases c0 : b s = w0
    · by_cases c1 : b (s + 1) = w1
      · by_cases c2 : b (s + 2) = w2
        · rw [if_pos ⟨e3, c0, c1, c2⟩]
          simp (disch := omega) only [CX5_nameIs, SX5_nameIs, hX5_nameIs_20, G1, hq, h6, h7, nI_s, e3, jl, j0, j1, j2, nI_ltI, i0, i1, i2, i3, nI_add, z0, p1, p2, p3, a10, b1, b1', b1'', c0, c1, c2, eq_self_iff_true, Option.bind_some, Option.bind_none, if_true, if_false, zr0, zr1, one11, one01, one0, one1, Option.toList_some, Option.toList_none, List.cons_append, List.nil_append, Nat.reduceEqDiff, Nat.reduceAdd, not_false_eq_true, not_true_eq_false, and_true, true_and, and_false, false_and, or_true, true_or, or_false, false_or, and_self, or_self, Bool.false_eq_true]
        · rw [if_neg (fun y => c2 y.2.2.2)]
          simp (disch := omega) only [CX5_nameIs, SX5_nameIs, hX5_nameIs_20, G1, hq, h6, h7, nI_s, e3, jl, j0, j1, j2, nI_ltI, i0, i1, i2, i3, nI_add, z0, p1, p2, p3, a10, b1, b1', b1'', c0, c1, nI_eq, c2, eq_self_iff_true, Option.bind_some, Option.bind_none, if_true, if_false, zr0, zr1, one11, one01, one0, one1, Option.toList_some, Option.toList_none, List.cons_append, List.nil_append, Nat.reduceEqDiff, Nat.reduceAdd, not_false_eq_true, not_true_eq_false, and_true, true_and, and_false, false_and, or_true, true_or, or_false, false_or, and_self, or_self, Bool.false_eq_true]
      · rw [if_neg (fun y => c1 y.2.2.1)]
        simp (disch := omega) only [CX5_nameIs, SX5_nameIs, hX5_nameIs_20, G1, hq, h6, h7, nI_s, e3, jl, j0, j1, nI_ltI, i0, i1, nI_add, z0, p1, p2, a10, b1, b1', c0, nI_eq, c1, eq_self_iff_true, Option.bind_some, Option.bind_none, if_true, if_false, zr0, zr1, one11, one01, one0, one1, Option.toList_some, Option.toList_none, List.cons_append, List.nil_append, Nat.reduceEqDiff, Nat.reduceAdd, not_false_eq_true, not_true_eq_false, and_true, true_and, and_false, false_and, or_true, true_or, or_false, false_or, and_self, or_self, Bool.false_eq_true]
    · rw [if_neg (fun y => c0 y.2.1)]
      simp (disch := omega) only [CX5_nameIs, SX5_nameIs, hX5_nameIs_20, G1, hq, h6, h7, nI_s, e3, jl, j0, nI_ltI, i0, nI_add, z0, a10, b1, nI_eq, c0, eq_self_iff_true, Option.bind_some, Option.bind_none, if_true, if_false, zr0, zr1, one11, one01, one0, one1, Option.toList_some, Option.toList_none, List.cons_append, List.nil_append, Nat.reduceEqDiff, Nat.reduceAdd, not_false_eq_true, not_true_eq_false, and_true, true_and, and_false, false_and, or_true, true_or, or_false, false_or, and_self, or_self, Bool.false_eq_true]
  · rw [if_neg (fun y => e3 y.1)]
    simp (disch := omega) only [CX5_nameIs, SX5_nameIs, G1, hq, h6, h7, nI_s, jl, nI_eq, e3, Option.bind_some, Option.bind_none, if_true, if_false, zr0, zr1, one11, one01, one0, one1, Option.toList_some, Option.toList_none, List.cons_append, List.nil_append, Nat.reduceEqDiff, Nat.reduceAdd, not_false_eq_true, not_true_eq_false, and_true, true_and, and_false, false_and, or_true, true_or, or_false, false_or, and_self, or_self, Bool.false_eq_true]
theorem c_nameIs2 (h : tpX F A b t) {s e : Nat} (h6 : F 1 6 = nI s) (h7 : F 1 7 = nI e) (hs : s ≤ e) (he : e ≤ t) : dcall mX5_nameIs [.ref 1, .ref (dN + 1 + 5)] (mk Lx F A J) = some (some (.int (if e - s = 2 ∧ b s = 105 ∧ b (s + 1) = 102 then nI 1 else nI 0)), mk Lx F A J) := by
  have ht := h.1
  have hq : dN + 1 ≤ dN + 1 + 5 ∧ dN + 1 + 5 < dN + 7 := by decide
  by_cases e3 : e - s = 2
  · obtain ⟨b7, b1⟩ := h.2.2 s (by omega)
    obtain ⟨b7', b1'⟩ := h.2.2 (s + 1) (by omega)
    have i0 : (0 : Nat) < 2 := by decide
    have i1 : (1 : Nat) < 2 := by decide
    have i2 : ¬ (2 : Nat) < 2 := by decide
    have z0 : s + 0 = s := rfl
    have p1 : (0 : Nat) + 1 = 1 := rfl
    have p2 : (1 : Nat) + 1 = 2 := rfl
    by_cases c0 : b s = 105
    · by_cases c1 : b (s + 1) = 102
      · rw [if_pos ⟨e3, c0, c1⟩]
        simp (disch := omega) only [CX5_nameIs, SX5_nameIs, hX5_nameIs_20, G1, hq, h6, h7, nI_s, e3, jl5, jc50, jc51, nI_ltI, i0, i1, i2, nI_add, z0, p1, p2, a10, b1, b1', c0, c1, eq_self_iff_true, Option.bind_some, Option.bind_none, if_true, if_false, zr0, zr1, one11, one01, one0, one1, Option.toList_some, Option.toList_none, List.cons_append, List.nil_append, Nat.reduceEqDiff, Nat.reduceAdd, not_false_eq_true, not_true_eq_false, and_true, true_and, and_false, false_and, or_true, true_or, or_false, false_or, and_self, or_self, Bool.false_eq_true]
      · rw [if_neg (fun y => c1 y.2.2)]
        simp (disch := omega) only [CX5_nameIs, SX5_nameIs, hX5_nameIs_20, G1, hq, h6, h7, nI_s, e3, jl5, jc50, jc51, nI_ltI, i0, i1, nI_add, z0, p1, p2, a10, b1, b1', c0, nI_eq, c1, eq_self_iff_true, Option.bind_some, Option.bind_none, if_true, if_false, zr0, zr1, one11, one01, one0, one1, Option.toList_some, Option.toList_none, List.cons_append, List.nil_append, Nat.reduceEqDiff, Nat.reduceAdd, not_false_eq_true, not_true_eq_false, and_true, true_and, and_false, false_and, or_true, true_or, or_false, false_or, and_self, or_self, Bool.false_eq_true]
    · rw [if_neg (fun y => c0 y.2.1)]
      simp (disch := omega) only [CX5_nameIs, SX5_nameIs, hX5_nameIs_20, G1, hq, h6, h7, nI_s, e3, jl5, jc50, nI_ltI, i0, nI_add, z0, a10, b1, nI_eq, c0, eq_self_iff_true, Option.bind_some, Option.bind_none, if_true, if_false, zr0, zr1, one11, one01, one0, one1, Option.toList_some, Option.toList_none, List.cons_append, List.nil_append, Nat.reduceEqDiff, Nat.reduceAdd, not_false_eq_true, not_true_eq_false, and_true, true_and, and_false, false_and, or_true, true_or, or_false, false_or, and_self, or_self, Bool.false_eq_true]
  · rw [if_neg (fun y => e3 y.1)]
    simp (disch := omega) only [CX5_nameIs, SX5_nameIs, G1, hq, h6, h7, nI_s, jl5, nI_eq, e3, Option.bind_some, Option.bind_none, if_true, if_false, zr0, zr1, one11, one01, one0, one1, Option.toList_some, Option.toList_none, List.cons_append, List.nil_append, Nat.reduceEqDiff, Nat.reduceAdd, not_false_eq_true, not_true_eq_false, and_true, true_and, and_false, false_and, or_true, true_or, or_false, false_or, and_self, or_self, Bool.false_eq_true]
theorem c_kindOfName (h : tpX F A b t) {s e : Nat} (h6 : F 1 6 = nI s) (h7 : F 1 7 = nI e) (hs : s ≤ e) (he : e ≤ t) : dcall mX5_kindOfName [.ref 1] (mk Lx F A J) = some (some (.int (if kn b s e = 6 then (-4) else nI (kn b s e))), mk Lx F A J) := by
  have n0 := c_nameIs3 (Lx := Lx) (J := J) h (q := dN + 1 + 0) (w0 := 112) (w1 := 117) (w2 := 116) (by decide) (by decide) (by decide) (by decide) jl0 jc00 jc01 jc02 h6 h7 hs he
  have n1 := c_nameIs3 (Lx := Lx) (J := J) h (q := dN + 1 + 1) (w0 := 97) (w1 := 100) (w2 := 100) (by decide) (by decide) (by decide) (by decide) jl1 jc10 jc11 jc12 h6 h7 hs he
  have n2 := c_nameIs3 (Lx := Lx) (J := J) h (q := dN + 1 + 2) (w0 := 115) (w1 := 117) (w2 := 98) (by decide) (by decide) (by decide) (by decide) jl2 jc20 jc21 jc22 h6 h7 hs he
  have n3 := c_nameIs3 (Lx := Lx) (J := J) h (q := dN + 1 + 3) (w0 := 109) (w1 := 117) (w2 := 108) (by decide) (by decide) (by decide) (by decide) jl3 jc30 jc31 jc32 h6 h7 hs he
  have n4 := c_nameIs3 (Lx := Lx) (J := J) h (q := dN + 1 + 4) (w0 := 100) (w1 := 105) (w2 := 118) (by decide) (by decide) (by decide) (by decide) jl4 jc40 jc41 jc42 h6 h7 hs he
  have n5 := c_nameIs2 (Lx := Lx) (J := J) h h6 h7 hs he
  unfold kn
  by_cases c0 : e - s = 3 ∧ b s = 112 ∧ b (s + 1) = 117 ∧ b (s + 2) = 116
  · rw [if_pos c0] at n0 ⊢
    rw [if_neg (by decide)]
    simp (disch := omega) only [CX5_kindOfName, SX5_kindOfName, O1, n0, Option.bind_some, Option.bind_none, if_true, if_false, zr0, zr1, one11, one01, one0, one1, Option.toList_some, Option.toList_none, List.cons_append, List.nil_append, Nat.reduceEqDiff, Nat.reduceAdd, not_false_eq_true, not_true_eq_false, and_true, true_and, and_false, false_and, or_true, true_or, or_false, false_or, and_self, or_self, Bool.false_eq_true]
  · rw [if_neg c0] at n0 ⊢
    by_cases c1 : e - s = 3 ∧ b s = 97 ∧ b (s + 1) = 100 ∧ b (s + 2) = 100
    · rw [if_pos c1] at n1 ⊢
      rw [if_neg (by decide)]
      simp (disch := omega) only [CX5_kindOfName, SX5_kindOfName, O1, n0, n1, Option.bind_some, Option.bind_none, if_true, if_false, zr0, zr1, one11, one01, one0, one1, Option.toList_some, Option.toList_none, List.cons_append, List.nil_append, Nat.reduceEqDiff, Nat.reduceAdd, not_false_eq_true, not_true_eq_false, and_true, true_and, and_false, false_and, or_true, true_or, or_false, false_or, and_self, or_self, Bool.false_eq_true]
    · rw [if_neg c1] at n1 ⊢
      by_cases c2 : e - s = 3 ∧ b s = 115 ∧ b (s + 1) = 117 ∧ b (s + 2) = 98
      · rw [if_pos c2] at n2 ⊢
        rw [if_neg (by decide)]
        simp (disch := omega) only [CX5_kindOfName, SX5_kindOfName, O1, n0, n1, n2, Option.bind_some, Option.bind_none, if_true, if_false, zr0, zr1, one11, one01, one0, one1, Option.toList_some, Option.toList_none, List.cons_append, List.nil_append, Nat.reduceEqDiff, Nat.reduceAdd, not_false_eq_true, not_true_eq_false, and_true, true_and, and_false, false_and, or_true, true_or, or_false, false_or, and_self, or_self, Bool.false_eq_true]
      · rw [if_neg c2] at n2 ⊢
        by_cases c3 : e - s = 3 ∧ b s = 109 ∧ b (s + 1) = 117 ∧ b (s + 2) = 108
        · rw [if_pos c3] at n3 ⊢
          rw [if_neg (by decide)]
          simp (disch := omega) only [CX5_kindOfName, SX5_kindOfName, O1, n0, n1, n2, n3, Option.bind_some, Option.bind_none, if_true, if_false, zr0, zr1, one11, one01, one0, one1, Option.toList_some, Option.toList_none, List.cons_append, List.nil_append, Nat.reduceEqDiff, Nat.reduceAdd, not_false_eq_true, not_true_eq_false, and_true, true_and, and_false, false_and, or_true, true_or, or_false, false_or, and_self, or_self, Bool.false_eq_true]
        · rw [if_neg c3] at n3 ⊢
          by_cases c4 : e - s = 3 ∧ b s = 100 ∧ b (s + 1) = 105 ∧ b (s + 2) = 118
          · rw [if_pos c4] at n4 ⊢
            rw [if_neg (by decide)]
            simp (disch := omega) only [CX5_kindOfName, SX5_kindOfName, O1, n0, n1, n2, n3, n4, Option.bind_some, Option.bind_none, if_true, if_false, zr0, zr1, one11, one01, one0, one1, Option.toList_some, Option.toList_none, List.cons_append, List.nil_append, Nat.reduceEqDiff, Nat.reduceAdd, not_false_eq_true, not_true_eq_false, and_true, true_and, and_false, false_and, or_true, true_or, or_false, false_or, and_self, or_self, Bool.false_eq_true]
          · rw [if_neg c4] at n4 ⊢
            by_cases c5 : e - s = 2 ∧ b s = 105 ∧ b (s + 1) = 102
            · rw [if_pos c5] at n5 ⊢
              rw [if_neg (by decide)]
              simp (disch := omega) only [CX5_kindOfName, SX5_kindOfName, O1, n0, n1, n2, n3, n4, n5, Option.bind_some, Option.bind_none, if_true, if_false, zr0, zr1, one11, one01, one0, one1, Option.toList_some, Option.toList_none, List.cons_append, List.nil_append, Nat.reduceEqDiff, Nat.reduceAdd, not_false_eq_true, not_true_eq_false, and_true, true_and, and_false, false_and, or_true, true_or, or_false, false_or, and_self, or_self, Bool.false_eq_true]
            · rw [if_neg c5] at n5 ⊢
              rw [if_pos rfl]
              simp (disch := omega) only [CX5_kindOfName, SX5_kindOfName, O1, n0, n1, n2, n3, n4, n5, Option.bind_some, Option.bind_none, if_true, if_false, zr0, zr1, one11, one01, one0, one1, Option.toList_some, Option.toList_none, List.cons_append, List.nil_append, Nat.reduceEqDiff, Nat.reduceAdd, not_false_eq_true, not_true_eq_false, and_true, true_and, and_false, false_and, or_true, true_or, or_false, false_or, and_self, or_self, Bool.false_eq_true]
theorem kn_le (s e : Nat) : kn b s e ≤ 6 := by
  unfold kn
  split
  · omega
  · split
    · omega
    · split
      · omega
      · split
        · omega
        · split
          · omega
          · split <;> omega
end NAME6
