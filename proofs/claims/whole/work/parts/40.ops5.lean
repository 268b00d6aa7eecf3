section OPS5
variable {Lx : Nat} {xs : Nat → Int32} {σ : dS}
theorem img_k {k : Nat} (h : k < 2) : isP (32 + 8 * k) := by
  have : k = 0 ∨ k = 1 := by omega
  rcases this with rfl | rfl
  · exact isP_32
  · exact isP_40
theorem r20 {F A : Nat → Nat → Int32} {J : Nat → Nat → Int64} {k : Nat} (h : k < 2) : drld (mk Lx F A J) 20 (nI k) = some (.ref (32 + 8 * k)) := by
  have : k = 0 ∨ k = 1 := by omega
  rcases this with rfl | rfl
  · exact r20_0
  · exact r20_1
theorem op_keep (h : Iv Lx xs σ) (v : Int32) : okI Lx xs mX6_keep mX7_keep [.int v] σ := by
  obtain ⟨F, A, J, rfl, hx, hI⟩ := h
  obtain ⟨hT, hP, ⟨hI0, hI1⟩, hR, ⟨hS0, hS1, hS2, hS3⟩, hf, hto⟩ := id hI
  obtain ⟨n, c, ws, ou, hv, hX, hM⟩ := id hP
  rcases iin v 2 (by omega) with ⟨k, hk, rfl⟩ | g
  · have e9 : nI k ≤ nI 1 := nI_le (by omega) (by omega)
    have e8 : ¬ nI k < 0 := nI_pos (by omega)
    have hkI : iI F A k := by
      have : k = 0 ∨ k = 1 := by omega
      rcases this with rfl | rfl
      · exact hI0
      · exact hI1
    have hb : (A 21 k = nI 0 ∧ A 59 k = nI 0) ∨ (A 21 k = nI 1 ∧ A 59 k = nI 1) := by
      rcases hkI with z | z
      · exact Or.inl z
      · exact Or.inr ⟨z.1, z.2.1⟩
    have hne : (32 + 8 * k) ≠ 12 := by omega
    obtain ⟨F1, A1, c1, c2, c3, c4⟩ := c_becomeLike (Lx := Lx) (F := F) (A := A) (J := J) (img_k hk) isP_12 hne
    have hX1 := c4 n c ws ou hv.1 hv.2.1 hX
    obtain ⟨f, m1, m2, m3⟩ := l_keepM (Lx := Lx) (F := F1) (J := J) hk (A 21 k) 128 0 (up (up A1 21 (up (A1 21) k (nI 1))) 59 (up (A1 59) k (nI 1))) (by omega)
    have y21 : A1 21 = A 21 := c3 21 (by omega)
    have y59 : A1 59 = A 59 := c3 59 (by omega)
    have y57 : A1 57 = A 57 := c3 57 (by omega)
    have y58 : A1 58 = A 58 := c3 58 (by omega)
    have hflag : (if A 21 k = 0 then nI 0 else nI 1) = A 21 k := by
      rcases hb with z | z
      · rw [z.1]; decide
      · rw [z.1]; decide
    refine ⟨A 21 k, mk Lx F1 (up A1 21 (up (A1 21) k (nI 1))) J, mk Lx F1 (up (up (up A1 21 (up (A1 21) k (nI 1))) 59 (up (A1 59) k (nI 1))) 58 f) J, ?_, ?_, _, _, _, rfl, ?_, ?_⟩
    · have hop := Op (Lx := Lx) (F := F) (A := A) (J := J) (img_k hk)
      simp (disch := omega) only [CX6_keep, SX6_keep, G0, a21, nI_l0, nI_ltI, hk, a21, r20, hop, c_oneIf, hflag, c1, w21, narZ1, Option.bind_some, Option.bind_none, if_true, if_false, zr0, zr1, one11, one01, one0, one1, Option.toList_some, Option.toList_none, List.cons_append, List.nil_append, Nat.reduceEqDiff, Nat.reduceAdd, not_false_eq_true, not_true_eq_false, and_true, true_and, and_false, false_and, or_true, true_or, or_false, false_or, and_self, or_self, Bool.false_eq_true]
    · have e59 : up A1 21 (up (A1 21) k (nI 1)) 59 k = A 21 k := by
        rw [up_ne _ _ (by decide), y59]
        rcases hb with z | z
        · rw [z.1, z.2]
        · rw [z.1, z.2]
      simp (disch := omega) only [CX7_keep, SX7_keep, G56, c_in, w64N, w64le, ge0n, bI_0, e8, e9, a59, c_flag, e59, hflag, w59, narZ1, Option.bind_some, Option.bind_none, if_true, if_false, zr0, zr1, one11, one01, one0, one1, Option.toList_some, Option.toList_none, List.cons_append, List.nil_append, Nat.reduceEqDiff, Nat.reduceAdd, not_false_eq_true, not_true_eq_false, and_true, true_and, and_false, false_and, or_true, true_or, or_false, false_or, and_self, or_self, Bool.false_eq_true]
      rw [up_ne (k := 21) _ _ (by decide)]
      exact m1
    · rw [up_ne _ _ (by decide), up_ne _ _ (by decide), up_ne _ _ (by decide), c3 75 (by omega)]
      exact hx
    · have fA : ∀ q, (q < 32 + 8 * k + 1 ∨ 32 + 8 * k + 7 < q) → q ≠ 21 → q ≠ 59 → q ≠ 58 → up (up (up A1 21 (up (A1 21) k (nI 1))) 59 (up (A1 59) k (nI 1))) 58 f q = A q := fun q h1 h2 h3 h4 => by rw [up_ne _ _ h4, up_ne _ _ h3, up_ne _ _ h2, c3 q h1]
      have fI : ∀ k', k' < 2 → iI F A k' → iI F1 (up (up (up A1 21 (up (A1 21) k (nI 1))) 59 (up (A1 59) k (nI 1))) 58 f) k' := by
        intro k' hk' hi
        by_cases e : k' = k
        · subst e
          refine Or.inr ⟨by rw [up_ne _ _ (by decide), up_ne _ _ (by decide), up_eq, up_eq], by rw [up_ne _ _ (by decide), up_eq, up_eq], n, c, ws, ou, hv, hX1.fr rfl (fun d h1 h2 => by rw [up_ne _ _ (by omega), up_ne _ _ (by omega), up_ne _ _ (by omega)]), ?_⟩
          have q57 : up (up A1 21 (up (A1 21) k' (nI 1))) 59 (up (A1 59) k' (nI 1)) 57 = A 57 := by rw [up_ne _ _ (by decide), up_ne _ _ (by decide), y57]
          rw [up_eq]
          have hn := hv.1
          have hn6 := hv.2.1
          refine ⟨?_, ?_, fun i hi w hw => ?_, fun j hj => ?_⟩
          · show f (128 * k' + 120) = _
            rw [m2 120 (by omega) (by omega), q57]; exact hM.1
          · show f (128 * k' + 121) = _
            rw [m2 121 (by omega) (by omega), q57]; exact hM.2.1
          · show f (128 * k' + (5 * i + w)) = _
            rw [m2 _ (by omega) (by omega), q57]; exact hM.2.2.1 i hi w hw
          · show f (128 * k' + (122 + j)) = _
            rw [m2 _ (by omega) (by omega), q57]; exact hM.2.2.2 j hj
        · refine hi.fr (c2 _ (by omega)) (fun d h1 h2 => fA _ (by omega) (by omega) (by omega) (by omega)) ?_ ?_ (fun t ht => ?_)
          · rw [up_ne _ _ (by decide), up_ne _ _ (by decide), up_eq, up_ne _ _ e, y21]
          · rw [up_ne _ _ (by decide), up_eq, up_ne _ _ e, y59]
          · rw [up_eq, m3 _ (by omega), up_ne _ _ (by decide), up_ne _ _ (by decide), y58]
      exact ⟨hT.fr (congrFun (c2 1 (by omega)) 3) (congrFun (c2 56 (by omega)) 5) (fA 10 (by omega) (by omega) (by omega) (by omega)) (fA 61 (by omega) (by omega) (by omega) (by omega)), hP.fr (c2 12 (by omega)) (fun d h1 h2 => fA _ (by omega) (by omega) (by omega) (by omega)) (fA 57 (by omega) (by omega) (by omega) (by omega)), ⟨fI 0 (by omega) hI0, fI 1 (by omega) hI1⟩, hR.fr (congrFun (c2 0 (by omega)) 8) (congrFun (c2 56 (by omega)) 20) (c2 27 (by omega)) (congrFun (c2 56 (by omega)) 21) (fA 28 (by omega) (by omega) (by omega) (by omega)) (fA 67 (by omega) (by omega) (by omega) (by omega)), ⟨hS0.fr (c2 _ (by omega)) (fA _ (by omega) (by omega) (by omega) (by omega)) (congrFun (fA 71 (by omega) (by omega) (by omega) (by omega)) 0) (congrFun (fA 72 (by omega) (by omega) (by omega) (by omega)) 0) (fun i _ => congrFun (fA 73 (by omega) (by omega) (by omega) (by omega)) _), hS1.fr (c2 _ (by omega)) (fA _ (by omega) (by omega) (by omega) (by omega)) (congrFun (fA 71 (by omega) (by omega) (by omega) (by omega)) 1) (congrFun (fA 72 (by omega) (by omega) (by omega) (by omega)) 1) (fun i _ => congrFun (fA 73 (by omega) (by omega) (by omega) (by omega)) _), hS2.fr (c2 _ (by omega)) (fA _ (by omega) (by omega) (by omega) (by omega)) (congrFun (fA 71 (by omega) (by omega) (by omega) (by omega)) 2) (congrFun (fA 72 (by omega) (by omega) (by omega) (by omega)) 2) (fun i _ => congrFun (fA 73 (by omega) (by omega) (by omega) (by omega)) _), hS3.fr (c2 _ (by omega)) (fA _ (by omega) (by omega) (by omega) (by omega)) (congrFun (fA 71 (by omega) (by omega) (by omega) (by omega)) 3) (congrFun (fA 72 (by omega) (by omega) (by omega) (by omega)) 3) (fun i _ => congrFun (fA 73 (by omega) (by omega) (by omega) (by omega)) _)⟩, by rw [c2 1 (by omega), c2 56 (by omega)]; exact hf, by rw [c2 0 (by omega), c2 56 (by omega)]; exact hto⟩
  · refine ⟨(-1), mk Lx F A J, mk Lx F A J, ?_, ?_, F, A, J, rfl, hx, hI⟩
    · by_cases z : v < 0
      · simp only [CX6_keep, SX6_keep, z, Option.bind_some, Option.bind_none, if_true, if_false, zr0, zr1, one11, one01, one0, one1, Option.toList_some, Option.toList_none, List.cons_append, List.nil_append, Nat.reduceEqDiff, Nat.reduceAdd, not_false_eq_true, not_true_eq_false, and_true, true_and, and_false, false_and, or_true, true_or, or_false, false_or, and_self, or_self, Bool.false_eq_true]
      · have : ¬ v < nI 2 := fun y => g ⟨z, y⟩
        simp only [CX6_keep, SX6_keep, z, this, Option.bind_some, Option.bind_none, if_true, if_false, zr0, zr1, one11, one01, one0, one1, Option.toList_some, Option.toList_none, List.cons_append, List.nil_append, Nat.reduceEqDiff, Nat.reduceAdd, not_false_eq_true, not_true_eq_false, and_true, true_and, and_false, false_and, or_true, true_or, or_false, false_or, and_self, or_self, Bool.false_eq_true]
    · have g2 : ¬ (¬ v < 0 ∧ v ≤ nI 1) := fun z => g ((in_le (by omega)).mp z)
      simp (disch := omega) only [CX7_keep, SX7_keep, c_in, w64N, w64le, ge0n, bI_0, g2, Option.bind_some, Option.bind_none, if_true, if_false, zr0, zr1, one11, one01, one0, one1, Option.toList_some, Option.toList_none, List.cons_append, List.nil_append, Nat.reduceEqDiff, Nat.reduceAdd, not_false_eq_true, not_true_eq_false, and_true, true_and, and_false, false_and, or_true, true_or, or_false, false_or, and_self, or_self, Bool.false_eq_true]
theorem op_back (h : Iv Lx xs σ) (v : Int32) : okI Lx xs mX6_back mX7_back [.int v] σ := by
  obtain ⟨F, A, J, rfl, hx, hI⟩ := h
  obtain ⟨hT, hP, ⟨hI0, hI1⟩, hR, ⟨hS0, hS1, hS2, hS3⟩, hf, hto⟩ := id hI
  rcases iin v 2 (by omega) with ⟨k, hk, rfl⟩ | g
  · have e9 : nI k ≤ nI 1 := nI_le (by omega) (by omega)
    have e8 : ¬ nI k < 0 := nI_pos (by omega)
    have hkI : iI F A k := by
      have : k = 0 ∨ k = 1 := by omega
      rcases this with rfl | rfl
      · exact hI0
      · exact hI1
    rcases hkI with ⟨z1, z2⟩ | ⟨z1, z2, n, c, ws, ou, hv, hX, hM⟩
    · refine ⟨(-2), mk Lx F A J, mk Lx F A J, ?_, ?_, F, A, J, rfl, hx, hI⟩
      · simp (disch := omega) only [CX6_back, SX6_back, G0, a21, nI_l0, nI_ltI, hk, z1, one0, Option.bind_some, Option.bind_none, if_true, if_false, zr0, zr1, one11, one01, one0, one1, Option.toList_some, Option.toList_none, List.cons_append, List.nil_append, Nat.reduceEqDiff, Nat.reduceAdd, not_false_eq_true, not_true_eq_false, and_true, true_and, and_false, false_and, or_true, true_or, or_false, false_or, and_self, or_self, Bool.false_eq_true]
      · simp (disch := omega) only [CX7_back, SX7_back_0, SX7_back_1, G56, c_in, w64N, w64le, ge0n, bI_0, e8, e9, a59, z2, one0, Option.bind_some, Option.bind_none, if_true, if_false, zr0, zr1, one11, one01, one0, one1, Option.toList_some, Option.toList_none, List.cons_append, List.nil_append, Nat.reduceEqDiff, Nat.reduceAdd, not_false_eq_true, not_true_eq_false, and_true, true_and, and_false, false_and, or_true, true_or, or_false, false_or, and_self, or_self, Bool.false_eq_true]
    · have hne : 12 ≠ (32 + 8 * k) := by omega
      obtain ⟨F1, A1, c1, c2, c3, c4⟩ := c_becomeLike (Lx := Lx) (F := F) (A := A) (J := J) isP_12 (img_k hk) hne
      have hX1 := c4 n c ws ou hv.1 hv.2.1 hX
      obtain ⟨f, m1, m2, m3⟩ := l_backM (Lx := Lx) (F := up F1 0 (up (F1 0) 8 (nI 0))) (J := J) hk 128 0 A1 (by omega)
      have y58 : A1 58 = A 58 := c3 58 (by omega)
      have y57 : A1 57 = A 57 := c3 57 (by omega)
      have f120 : f 120 = nI n := by rw [m2 120 (by omega) (by omega), y58]; exact hM.1
      rw [f120] at m1
      refine ⟨nI n, mk Lx (up F1 0 (up (F1 0) 8 (nI 0))) A1 J, mk Lx (up (up F1 0 (up (F1 0) 8 (nI 0))) 56 (up (up F1 0 (up (F1 0) 8 (nI 0)) 56) 20 (nI 0))) (up A1 57 f) J, ?_, ?_, _, _, _, rfl, ?_, ?_⟩
      · simp (disch := omega) only [CX6_back, SX6_back, G0, P0, a21, nI_l0, nI_ltI, hk, z1, one1, r20, Op isP_12, Gp isP_12, c1, zr0, up_ne, hX1.1, Option.bind_some, Option.bind_none, if_true, if_false, zr0, zr1, one11, one01, one0, one1, Option.toList_some, Option.toList_none, List.cons_append, List.nil_append, Nat.reduceEqDiff, Nat.reduceAdd, not_false_eq_true, not_true_eq_false, and_true, true_and, and_false, false_and, or_true, true_or, or_false, false_or, and_self, or_self, Bool.false_eq_true]
      · have z3 : A1 59 k = nI 1 := by rw [c3 59 (by omega)]; exact z2
        simp (disch := omega) only [CX7_back, SX7_back_0, SX7_back_1, G56, c_in, w64N, w64le, ge0n, bI_0, e8, e9, a59, z3, one1, Option.bind_some, Option.bind_none, if_true, if_false, zr0, zr1, one11, one01, one0, one1, Option.toList_some, Option.toList_none, List.cons_append, List.nil_append, Nat.reduceEqDiff, Nat.reduceAdd, not_false_eq_true, not_true_eq_false, and_true, true_and, and_false, false_and, or_true, true_or, or_false, false_or, and_self, or_self, Bool.false_eq_true]
        exact m1
      · rw [up_ne _ _ (by decide), c3 75 (by omega)]
        exact hx
      · have fA : ∀ q, (q < 13 ∨ 19 < q) → q ≠ 57 → up A1 57 f q = A q := fun q h1 h2 => by rw [up_ne _ _ h2, c3 q h1]
        have fF : ∀ q, q ≠ 12 → q ≠ 0 → q ≠ 56 → up (up F1 0 (up (F1 0) 8 (nI 0))) 56 (up (up F1 0 (up (F1 0) 8 (nI 0)) 56) 20 (nI 0)) q = F q := fun q h1 h2 h3 => by rw [up_ne _ _ h3, up_ne _ _ h2, c2 q h1]
        have g0 : ∀ w, w ≠ 8 → up (up F1 0 (up (F1 0) 8 (nI 0))) 56 (up (up F1 0 (up (F1 0) 8 (nI 0)) 56) 20 (nI 0)) 0 w = F 0 w := fun w hw => by rw [up_ne _ _ (by decide), up_eq, up_ne _ _ hw, c2 0 (by decide)]
        have g56 : ∀ w, w ≠ 20 → up (up F1 0 (up (F1 0) 8 (nI 0))) 56 (up (up F1 0 (up (F1 0) 8 (nI 0)) 56) 20 (nI 0)) 56 w = F 56 w := fun w hw => by rw [up_eq, up_ne _ _ hw, up_ne _ _ (by decide), c2 56 (by decide)]
        have fI : ∀ k', k' < 2 → iI F A k' → iI (up (up F1 0 (up (F1 0) 8 (nI 0))) 56 (up (up F1 0 (up (F1 0) 8 (nI 0)) 56) 20 (nI 0))) (up A1 57 f) k' := fun k' hk' hi => hi.fr (fF _ (by omega) (by omega) (by omega)) (fun d h1 h2 => fA _ (by omega) (by omega)) (congrFun (fA 21 (by omega) (by omega)) k') (congrFun (fA 59 (by omega) (by omega)) k') (fun t _ => congrFun (fA 58 (by omega) (by omega)) _)
        have fS : ∀ k', k' < 4 → iS F A k' → iS (up (up F1 0 (up (F1 0) 8 (nI 0))) 56 (up (up F1 0 (up (F1 0) 8 (nI 0)) 56) 20 (nI 0))) (up A1 57 f) k' := fun k' hk' hi => hi.fr (fF _ (by omega) (by omega) (by omega)) (fA _ (by omega) (by omega)) (congrFun (fA 71 (by omega) (by omega)) k') (congrFun (fA 72 (by omega) (by omega)) k') (fun i _ => congrFun (fA 73 (by omega) (by omega)) _)
        refine ⟨hT.fr (congrFun (fF 1 (by omega) (by omega) (by omega)) 3) (g56 5 (by omega)) (fA 10 (by omega) (by omega)) (fA 61 (by omega) (by omega)), ⟨n, c, ws, ou, hv, hX1.fr ?_ (fun d h1 h2 => up_ne _ _ (by omega)), ?_⟩, ⟨fI 0 (by omega) hI0, fI 1 (by omega) hI1⟩, Or.inl ⟨?_, ?_⟩, ⟨fS 0 (by omega) hS0, fS 1 (by omega) hS1, fS 2 (by omega) hS2, fS 3 (by omega) hS3⟩, ?_, ?_⟩
        · rw [up_ne _ _ (by decide), up_ne _ _ (by decide)]
        · rw [up_eq]
          have hn := hv.1
          have hn6 := hv.2.1
          exact ⟨f120, by rw [m2 121 (by omega) (by omega), y58]; exact hM.2.1, fun i hi w hw => by rw [m2 _ (by omega) (by omega), y58]; exact hM.2.2.1 i hi w hw, fun j hj => by rw [m2 _ (by omega) (by omega), y58]; exact hM.2.2.2 j hj⟩
        · rw [up_ne _ _ (by decide), up_eq, up_eq]
        · rw [up_eq, up_eq]
        · rw [fF 1 (by omega) (by omega) (by omega), g56 10 (by omega)]; exact hf
        · rw [g0 9 (by omega), g56 32 (by omega)]; exact hto
  · refine ⟨(-1), mk Lx F A J, mk Lx F A J, ?_, ?_, F, A, J, rfl, hx, hI⟩
    · by_cases z : v < 0
      · simp only [CX6_back, SX6_back, z, Option.bind_some, Option.bind_none, if_true, if_false, zr0, zr1, one11, one01, one0, one1, Option.toList_some, Option.toList_none, List.cons_append, List.nil_append, Nat.reduceEqDiff, Nat.reduceAdd, not_false_eq_true, not_true_eq_false, and_true, true_and, and_false, false_and, or_true, true_or, or_false, false_or, and_self, or_self, Bool.false_eq_true]
      · have : ¬ v < nI 2 := fun y => g ⟨z, y⟩
        simp only [CX6_back, SX6_back, z, this, Option.bind_some, Option.bind_none, if_true, if_false, zr0, zr1, one11, one01, one0, one1, Option.toList_some, Option.toList_none, List.cons_append, List.nil_append, Nat.reduceEqDiff, Nat.reduceAdd, not_false_eq_true, not_true_eq_false, and_true, true_and, and_false, false_and, or_true, true_or, or_false, false_or, and_self, or_self, Bool.false_eq_true]
    · have g2 : ¬ (¬ v < 0 ∧ v ≤ nI 1) := fun z => g ((in_le (by omega)).mp z)
      simp (disch := omega) only [CX7_back, SX7_back_0, SX7_back_1, c_in, w64N, w64le, ge0n, bI_0, g2, Option.bind_some, Option.bind_none, if_true, if_false, zr0, zr1, one11, one01, one0, one1, Option.toList_some, Option.toList_none, List.cons_append, List.nil_append, Nat.reduceEqDiff, Nat.reduceAdd, not_false_eq_true, not_true_eq_false, and_true, true_and, and_false, false_and, or_true, true_or, or_false, false_or, and_self, or_self, Bool.false_eq_true]
end OPS5
