section SWEEPOP
variable {Lx : Nat} {J : Nat → Nat → Int64} {ou : Nat} {ws : Nat → Nat}
theorem Inv.frP {F A F' A' : Nat → Nat → Int32} (h : Inv F A) (hF : ∀ p, p ≠ 12 → F' p = F p) (hA : ∀ q, q ≤ 12 ∨ 19 < q → q ≠ 57 → q ≠ 70 → q ≠ 74 → A' q = A q) (hP' : iP F' A') : Inv F' A' := by
  obtain ⟨hT, -, ⟨hI0, hI1⟩, hR, ⟨hS0, hS1, hS2, hS3⟩, hf, hto⟩ := h
  refine ⟨hT.fr (by rw [hF] <;> omega) (by rw [hF] <;> omega) (by apply hA <;> omega) (by apply hA <;> omega), hP', ⟨hI0.fr (by apply hF <;> omega) (fun d _ _ => by apply hA <;> omega) (by rw [hA] <;> omega) (by rw [hA] <;> omega) (fun t _ => by rw [hA] <;> omega), hI1.fr (by apply hF <;> omega) (fun d _ _ => by apply hA <;> omega) (by rw [hA] <;> omega) (by rw [hA] <;> omega) (fun t _ => by rw [hA] <;> omega)⟩, hR.fr (by rw [hF] <;> omega) (by rw [hF] <;> omega) (by rw [hF] <;> omega) (by rw [hF] <;> omega) (by rw [hA] <;> omega) (by rw [hA] <;> omega), ⟨hS0.fr (by apply hF <;> omega) (by apply hA <;> omega) (by rw [hA] <;> omega) (by rw [hA] <;> omega) (fun t _ => by rw [hA] <;> omega), hS1.fr (by apply hF <;> omega) (by apply hA <;> omega) (by rw [hA] <;> omega) (by rw [hA] <;> omega) (fun t _ => by rw [hA] <;> omega), hS2.fr (by apply hF <;> omega) (by apply hA <;> omega) (by rw [hA] <;> omega) (by rw [hA] <;> omega) (fun t _ => by rw [hA] <;> omega), hS3.fr (by apply hF <;> omega) (by apply hA <;> omega) (by rw [hA] <;> omega) (by rw [hA] <;> omega) (fun t _ => by rw [hA] <;> omega)⟩, ?_, ?_⟩
  · rw [hF 1 (by omega), hF 56 (by omega)]; exact hf
  · rw [hF 0 (by omega), hF 56 (by omega)]; exact hto
theorem l_sweep7 {F : Nat → Nat → Int32} : ∀ k n (c : Nat → Nat → Nat) (A : Nat → Nat → Int32) (al : Nat), n ≤ k → al + n ≤ 24 → PV n c ws ou → M0 (A 57) n c ws ou → ∃ A1 A2, dcall mX7_sweepOnce [.ref 56] (mk Lx F A J) = some (some (.int (nI (n - swN n c ou))), mk Lx F A1 J) ∧ den mX7_sweep 7 [some (.ref 56), some (.int (nI al)), some (.int (nI (n - swN n c ou)))] [] (mk Lx F A1 J) = some (some (.int (nI (al + (n - (sw ou k n c).1)))), mk Lx F A2 J) ∧ M0 (A2 57) (sw ou k n c).1 (sw ou k n c).2 ws ou ∧ ∀ q, q ≠ 57 → q ≠ 70 → A2 q = A q := by
  intro k
  induction k with
  | zero =>
    intro n c A al hk hal hv hM
    obtain ⟨A1, d1, d2, d3⟩ := c_once7 (Lx := Lx) (F := F) (J := J) hM hv
    refine ⟨A1, A1, d1, ?_, d2, d3⟩
    have z : n - swN n c ou = 0 := by omega
    rw [sw, z, hX7_sweep_7]
    simp (disch := omega) only [SX7_sweep, nI_g0, Nat.lt_irrefl, Nat.add_zero, Option.bind_some, Option.bind_none, if_true, if_false, zr0, zr1, one11, one01, one0, one1, Option.toList_some, Option.toList_none, List.cons_append, List.nil_append, Nat.reduceEqDiff, Nat.reduceAdd, not_false_eq_true, not_true_eq_false, and_true, true_and, and_false, false_and, or_true, true_or, or_false, false_or, and_self, or_self, Bool.false_eq_true]
  | succ k ih =>
    intro n c A al hk hal hv hM
    obtain ⟨A1, d1, d2, d3⟩ := c_once7 (Lx := Lx) (F := F) (J := J) hM hv
    have hle := swN_le n c ou
    rw [sw]
    by_cases h : swN n c ou < n
    · rw [if_pos h]
      obtain ⟨A2, A3, i1, i2, i3, i4⟩ := ih _ _ A1 (al + (n - swN n c ou)) (by omega) (by omega) (sw_PV hv) d2
      have := (sw_all k _ _ (sw_PV hv)).2
      refine ⟨A1, A3, d1, ?_, i3, fun q h1 h2 => by rw [i4 q h1 h2, d3 q h1 h2]⟩
      have z : 0 < n - swN n c ou := by omega
      rw [show al + (n - swN n c ou) + (swN n c ou - (sw ou k (swN n c ou) (swC n c ou)).1) = al + (n - (sw ou k (swN n c ou) (swC n c ou)).1) by omega] at i2
      rw [hX7_sweep_7]
      simp (disch := omega) only [SX7_sweep, O56, nI_g0, z, i1, nI_add, i2, Option.bind_some, Option.bind_none, if_true, if_false, zr0, zr1, one11, one01, one0, one1, Option.toList_some, Option.toList_none, List.cons_append, List.nil_append, Nat.reduceEqDiff, Nat.reduceAdd, not_false_eq_true, not_true_eq_false, and_true, true_and, and_false, false_and, or_true, true_or, or_false, false_or, and_self, or_self, Bool.false_eq_true]
    · rw [if_neg h]
      refine ⟨A1, A1, d1, ?_, d2, d3⟩
      have z : n - swN n c ou = 0 := by omega
      simp only [z]
      rw [hX7_sweep_7]
      simp (disch := omega) only [SX7_sweep, nI_g0, Nat.lt_irrefl, Nat.add_zero, Option.bind_some, Option.bind_none, if_true, if_false, zr0, zr1, one11, one01, one0, one1, Option.toList_some, Option.toList_none, List.cons_append, List.nil_append, Nat.reduceEqDiff, Nat.reduceAdd, not_false_eq_true, not_true_eq_false, and_true, true_and, and_false, false_and, or_true, true_or, or_false, false_or, and_self, or_self, Bool.false_eq_true]
theorem op_sweep {σ : dS} {xs : Nat → Int32} (h : Iv Lx xs σ) : okI Lx xs mX6_sweep mX7_sweep [] σ := by
  obtain ⟨F, A, J, rfl, hx, hI⟩ := h
  obtain ⟨hT, hP, ⟨hI0, hI1⟩, hR, ⟨hS0, hS1, hS2, hS3⟩, hf, hto⟩ := id hI
  obtain ⟨n, c, ws, ou, hv, hX, hM⟩ := hP
  have hn := hv.1
  obtain ⟨F1, A1, e1, e2, e3, e4⟩ := l_sweep6 (Lx := Lx) (J := J) hn 24 0 1 n c F A hn (by omega) (by omega) (by omega) (Nat.le_refl n) hv hX
  have h57 : A1 57 = A 57 := e4 57 (fun d _ _ => by omega)
  obtain ⟨A2, A3, i1, i2, i3, i4⟩ := l_sweep7 (Lx := Lx) (J := J) (F := F1) 24 n c A1 0 hn (by omega) hv (by rw [h57]; exact hM)
  rw [Nat.zero_add] at i2
  refine ⟨nI (n - (sw ou 24 n c).1), mk Lx F1 A1 J, mk Lx F1 A3 J, ?_, ?_, F1, A3, J, rfl, ?_, ?_⟩
  · simp (disch := omega) only [CX6_sweep, SX6_sweep, G0, Gp isP_12, hX.1, e1, Option.bind_some, Option.bind_none, if_true, if_false, zr0, zr1, one11, one01, one0, one1, Option.toList_some, Option.toList_none, List.cons_append, List.nil_append, Nat.reduceEqDiff, Nat.reduceAdd, not_false_eq_true, not_true_eq_false, and_true, true_and, and_false, false_and, or_true, true_or, or_false, false_or, and_self, or_self, Bool.false_eq_true]
  · simp (disch := omega) only [CX7_sweep, SX7_sweep, O56, i1, i2, Option.bind_some, Option.bind_none, if_true, if_false, zr0, zr1, one11, one01, one0, one1, Option.toList_some, Option.toList_none, List.cons_append, List.nil_append, Nat.reduceEqDiff, Nat.reduceAdd, not_false_eq_true, not_true_eq_false, and_true, true_and, and_false, false_and, or_true, true_or, or_false, false_or, and_self, or_self, Bool.false_eq_true]
  · rw [i4 75 (by omega) (by omega), e4 75 (fun d _ _ => by omega)]; exact hx
  · refine hI.frP e3 (fun q q1 q2 q3 q4 => by rw [i4 q q2 q3, e4 q (fun d _ _ => by omega)]) ⟨(sw ou 24 n c).1, (sw ou 24 n c).2, ws, ou, (sw_all 24 n c hv).1, e2.fr rfl (fun d _ _ => by rw [i4 _ (by omega) (by omega)]), i3⟩
end SWEEPOP
