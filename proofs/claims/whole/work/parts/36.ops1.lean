section OPS1
variable {Lx : Nat} {xs : Nat → Int32} {σ : dS}
theorem op_fault (h : Iv Lx xs σ) : okI Lx xs mX6_fault mX7_fault [] σ := by
  obtain ⟨F, A, J, rfl, hx, hI⟩ := h
  refine ⟨F 1 8, mk Lx F A J, mk Lx F A J, ?_, ?_, F, A, J, rfl, hx, hI⟩
  · simp only [CX6_fault, SX6_fault, G0, G1, Option.bind_some, Option.bind_none, if_true, if_false, zr0, zr1, one11, one01, one0, one1, Option.toList_some, Option.toList_none, List.cons_append, List.nil_append, Nat.reduceEqDiff, Nat.reduceAdd, not_false_eq_true, not_true_eq_false, and_true, true_and, and_false, false_and, or_true, true_or, or_false, false_or, and_self, or_self, Bool.false_eq_true]
  · simp only [CX7_fault, SX7_fault, G56, hI.2.2.2.2.2.1, Option.bind_some, Option.bind_none, if_true, if_false, zr0, zr1, one11, one01, one0, one1, Option.toList_some, Option.toList_none, List.cons_append, List.nil_append, Nat.reduceEqDiff, Nat.reduceAdd, not_false_eq_true, not_true_eq_false, and_true, true_and, and_false, false_and, or_true, true_or, or_false, false_or, and_self, or_self, Bool.false_eq_true]
theorem op_torn (h : Iv Lx xs σ) : okI Lx xs mX6_torn mX7_torn [] σ := by
  obtain ⟨F, A, J, rfl, hx, hI⟩ := h
  refine ⟨F 0 9, mk Lx F A J, mk Lx F A J, ?_, ?_, F, A, J, rfl, hx, hI⟩
  · simp only [CX6_torn, SX6_torn, G0, G1, Option.bind_some, Option.bind_none, if_true, if_false, zr0, zr1, one11, one01, one0, one1, Option.toList_some, Option.toList_none, List.cons_append, List.nil_append, Nat.reduceEqDiff, Nat.reduceAdd, not_false_eq_true, not_true_eq_false, and_true, true_and, and_false, false_and, or_true, true_or, or_false, false_or, and_self, or_self, Bool.false_eq_true]
  · simp only [CX7_torn, SX7_torn, G56, hI.2.2.2.2.2.2, Option.bind_some, Option.bind_none, if_true, if_false, zr0, zr1, one11, one01, one0, one1, Option.toList_some, Option.toList_none, List.cons_append, List.nil_append, Nat.reduceEqDiff, Nat.reduceAdd, not_false_eq_true, not_true_eq_false, and_true, true_and, and_false, false_and, or_true, true_or, or_false, false_or, and_self, or_self, Bool.false_eq_true]
theorem op_feed (h : Iv Lx xs σ) (v : Int32) : okI Lx xs mX6_feed mX7_feed [.int v] σ := by
  obtain ⟨F, A, J, rfl, hx, hI⟩ := h
  obtain ⟨hT, hP, ⟨hI0, hI1⟩, hR, ⟨hS0, hS1, hS2, hS3⟩, hf, hto⟩ := id hI
  obtain ⟨t, ht, h1, h2, h3⟩ := id hT
  rcases iin v 128 (by decide) with ⟨b, hb, rfl⟩ | g
  · have e1 : ¬ 127 < b := by omega
    have e9 : nI b ≤ nI 127 := nI_le (by omega) (by decide)
    have e8 : ¬ nI b < 0 := nI_pos (by omega)
    by_cases e : t < 320
    · have e3 : ¬ t = 320 := by omega
      refine ⟨nI (t + 1), mk Lx (up F 1 (up (F 1) 3 (nI (t + 1)))) (up A 10 (up (A 10) t (nI b))) J, mk Lx (up (up F 1 (up (F 1) 3 (nI (t + 1)))) 56 (up (F 56) 5 (nI (t + 1)))) (up (up A 10 (up (A 10) t (nI b))) 61 (up (A 61) t (nI b))) J, ?_, ?_, _, _, _, rfl, ?_, ?_⟩
      · simp (disch := omega) only [CX6_feed, SX6_feed, G0, G1, P1, h1, nI_l0, nI_ltI, e, e1, byteN, narB, w10, up_eq, nI_add, Option.bind_some, Option.bind_none, if_true, if_false, zr0, zr1, one11, one01, one0, one1, Option.toList_some, Option.toList_none, List.cons_append, List.nil_append, Nat.reduceEqDiff, Nat.reduceAdd, not_false_eq_true, not_true_eq_false, and_true, true_and, and_false, false_and, or_true, true_or, or_false, false_or, and_self, or_self, Bool.false_eq_true]
      · simp (disch := omega) only [CX7_feed, SX7_feed, G56, O56, P56, h2, c_in, w64N, w64le, ge0n, bI_0, e8, e9, nI_eq, e3, w61, up_eq, up_ne, nI_add, Option.bind_some, Option.bind_none, if_true, if_false, zr0, zr1, one11, one01, one0, one1, Option.toList_some, Option.toList_none, List.cons_append, List.nil_append, Nat.reduceEqDiff, Nat.reduceAdd, not_false_eq_true, not_true_eq_false, and_true, true_and, and_false, false_and, or_true, true_or, or_false, false_or, and_self, or_self, Bool.false_eq_true]
      · rw [up_ne _ _ (by decide), up_ne _ _ (by decide)]
        exact hx
      · refine ⟨⟨t + 1, by omega, (by simp (disch := omega) only [up_eq, up_ne]), (by simp (disch := omega) only [up_eq, up_ne]), fun k hk => ?_⟩, (hP.fr (by simp (disch := omega) only [up_eq, up_ne]) (fun d _ _ => by simp (disch := omega) only [up_eq, up_ne]) (by simp (disch := omega) only [up_eq, up_ne])), ⟨(hI0.fr (by simp (disch := omega) only [up_eq, up_ne]) (fun d _ _ => by simp (disch := omega) only [up_eq, up_ne]) (by simp (disch := omega) only [up_eq, up_ne]) (by simp (disch := omega) only [up_eq, up_ne]) (fun t _ => by simp (disch := omega) only [up_eq, up_ne])), (hI1.fr (by simp (disch := omega) only [up_eq, up_ne]) (fun d _ _ => by simp (disch := omega) only [up_eq, up_ne]) (by simp (disch := omega) only [up_eq, up_ne]) (by simp (disch := omega) only [up_eq, up_ne]) (fun t _ => by simp (disch := omega) only [up_eq, up_ne]))⟩, (hR.fr (by simp (disch := omega) only [up_eq, up_ne]) (by simp (disch := omega) only [up_eq, up_ne]) (by simp (disch := omega) only [up_eq, up_ne]) (by simp (disch := omega) only [up_eq, up_ne]) (by simp (disch := omega) only [up_eq, up_ne]) (by simp (disch := omega) only [up_eq, up_ne])), ⟨(hS0.fr (by simp (disch := omega) only [up_eq, up_ne]) (by simp (disch := omega) only [up_eq, up_ne]) (by simp (disch := omega) only [up_eq, up_ne]) (by simp (disch := omega) only [up_eq, up_ne]) (fun t _ => by simp (disch := omega) only [up_eq, up_ne])), (hS1.fr (by simp (disch := omega) only [up_eq, up_ne]) (by simp (disch := omega) only [up_eq, up_ne]) (by simp (disch := omega) only [up_eq, up_ne]) (by simp (disch := omega) only [up_eq, up_ne]) (fun t _ => by simp (disch := omega) only [up_eq, up_ne])), (hS2.fr (by simp (disch := omega) only [up_eq, up_ne]) (by simp (disch := omega) only [up_eq, up_ne]) (by simp (disch := omega) only [up_eq, up_ne]) (by simp (disch := omega) only [up_eq, up_ne]) (fun t _ => by simp (disch := omega) only [up_eq, up_ne])), (hS3.fr (by simp (disch := omega) only [up_eq, up_ne]) (by simp (disch := omega) only [up_eq, up_ne]) (by simp (disch := omega) only [up_eq, up_ne]) (by simp (disch := omega) only [up_eq, up_ne]) (fun t _ => by simp (disch := omega) only [up_eq, up_ne]))⟩, (by simp (disch := omega) only [up_eq, up_ne]; exact hf), (by simp (disch := omega) only [up_eq, up_ne]; exact hto)⟩
        by_cases ek : k = t
        · subst ek
          exact ⟨b, by omega, (by simp (disch := omega) only [up_eq, up_ne]), (by simp (disch := omega) only [up_eq, up_ne])⟩
        · obtain ⟨b2, g1, g2, g3⟩ := h3 k (by omega)
          refine ⟨b2, g1, ?_, ?_⟩
          · rw [up_ne _ _ (by decide), up_eq, up_ne _ _ ek]; exact g2
          · rw [up_eq, up_ne _ _ ek]; exact g3
    · have e3 : t = 320 := by omega
      refine ⟨(-3), mk Lx F A J, mk Lx F A J, ?_, ?_, F, A, J, rfl, hx, hI⟩
      · simp (disch := omega) only [CX6_feed, SX6_feed, G0, G1, P1, h1, nI_l0, nI_ltI, e, e1, Option.bind_some, Option.bind_none, if_true, if_false, zr0, zr1, one11, one01, one0, one1, Option.toList_some, Option.toList_none, List.cons_append, List.nil_append, Nat.reduceEqDiff, Nat.reduceAdd, not_false_eq_true, not_true_eq_false, and_true, true_and, and_false, false_and, or_true, true_or, or_false, false_or, and_self, or_self, Bool.false_eq_true]
      · simp (disch := omega) only [CX7_feed, SX7_feed, G56, O56, P56, h2, c_in, w64N, w64le, ge0n, bI_0, e8, e9, nI_eq, e3, Option.bind_some, Option.bind_none, if_true, if_false, zr0, zr1, one11, one01, one0, one1, Option.toList_some, Option.toList_none, List.cons_append, List.nil_append, Nat.reduceEqDiff, Nat.reduceAdd, not_false_eq_true, not_true_eq_false, and_true, true_and, and_false, false_and, or_true, true_or, or_false, false_or, and_self, or_self, Bool.false_eq_true]
  · refine ⟨(-1), mk Lx F A J, mk Lx F A J, ?_, ?_, F, A, J, rfl, hx, hI⟩
    · by_cases z : v < 0
      · simp only [CX6_feed, SX6_feed, z, Option.bind_some, Option.bind_none, if_true, if_false, zr0, zr1, one11, one01, one0, one1, Option.toList_some, Option.toList_none, List.cons_append, List.nil_append, Nat.reduceEqDiff, Nat.reduceAdd, not_false_eq_true, not_true_eq_false, and_true, true_and, and_false, false_and, or_true, true_or, or_false, false_or, and_self, or_self, Bool.false_eq_true]
      · have : nI 127 < v := by
          rcases Int32.lt_or_le (nI 127) v with y | y
          · exact y
          · exact absurd ((in_le (by decide)).mp ⟨z, y⟩) g
        simp only [CX6_feed, SX6_feed, z, this, Option.bind_some, Option.bind_none, if_true, if_false, zr0, zr1, one11, one01, one0, one1, Option.toList_some, Option.toList_none, List.cons_append, List.nil_append, Nat.reduceEqDiff, Nat.reduceAdd, not_false_eq_true, not_true_eq_false, and_true, true_and, and_false, false_and, or_true, true_or, or_false, false_or, and_self, or_self, Bool.false_eq_true]
    · have g2 : ¬ (¬ v < 0 ∧ v ≤ nI 127) := fun z => g ((in_le (by decide)).mp z)
      simp (disch := omega) only [CX7_feed, SX7_feed, c_in, w64N, w64le, ge0n, bI_0, g2, Option.bind_some, Option.bind_none, if_true, if_false, zr0, zr1, one11, one01, one0, one1, Option.toList_some, Option.toList_none, List.cons_append, List.nil_append, Nat.reduceEqDiff, Nat.reduceAdd, not_false_eq_true, not_true_eq_false, and_true, true_and, and_false, false_and, or_true, true_or, or_false, false_or, and_self, or_self, Bool.false_eq_true]
end OPS1
