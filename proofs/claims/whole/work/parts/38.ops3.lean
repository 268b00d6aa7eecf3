section SETM
variable {Lx : Nat} {F A : Nat → Nat → Int32} {J : Nat → Nat → Int64} {n ou : Nat} {c : Nat → Nat → Nat} {ws : Nat → Nat}
theorem c_setM1 (h : M0 (A 57) n c ws ou) (hv : PV n c ws ou) {j k : Nat} (hj : j < n) (hk : k = 1 ∨ k = 2 ∨ k = 3) (v : Int32) : dcall mX7_set [.ref 56, .int (nI j), .int (nI k), .int v] (mk Lx F A J) = if ¬ v < 0 ∧ v ≤ most (c j 0) (nI k) then some (some (.int (A 57 (5 * j + k))), mk Lx F (up A 57 (up (A 57) (5 * j + k) v)) J) else some (some (.int (-1)), mk Lx F A J) := by
  have hn := hv.1
  have hb := hv.b hj
  have q1 : ¬ nI j < 0 ∧ nI j < nI n := ⟨nI_pos (by omega), nI_lt hj (by omega)⟩
  have h0 : A 57 (5 * j + 0) = nI (c j 0) := h.2.2.1 j hj 0 (by omega)
  have k1 : nI 1 ≤ nI k := nI_le (by omega) (by omega)
  have k3 : nI k ≤ nI 3 := nI_le (by omega) (by omega)
  have kp : ∀ X : Int32, (nI 0 ≤ v ∧ v ≤ X) ↔ (¬ v < 0 ∧ v ≤ X) := fun X => by rw [ge0n]
  have key : ∀ X : Int32, X = most (c j 0) (nI k) → (if bI (¬ v < 0 ∧ v ≤ X) = 0 then some (some (Value.int (-1)), mk Lx F A J) else some (some (.int (A 57 (5 * j + k))), mk Lx F (up A 57 (up (A 57) (5 * j + k) v)) J)) = if ¬ v < 0 ∧ v ≤ most (c j 0) (nI k) then some (some (Value.int (A 57 (5 * j + k))), mk Lx F (up A 57 (up (A 57) (5 * j + k) v)) J) else some (some (.int (-1)), mk Lx F A J) := by
    intro X hX
    rw [hX]
    by_cases z : ¬ v < 0 ∧ v ≤ most (c j 0) (nI k)
    · rw [if_neg (fun y => (bI_0 _).mp y z), if_pos z]
    · rw [if_pos ((bI_0 _).mpr z), if_neg z]
  by_cases e0 : c j 0 = 0
  · rcases hk with rfl | rfl | rfl
    · rw [← key (nI 7) (by rw [e0]; decide)]
      simp (disch := omega) only [CX7_set, SX7_set_0, SX7_set_1, O56, c_isCode h hn, bI_0, q1, c_in, w64N, w64le, k1, k3, c_of, h0, nI_e0, nI_eq, e0, ge0n, nI_m, nI_add, c_becomes, Option.bind_some, Option.bind_none, if_true, if_false, zr0, zr1, one11, one01, one0, one1, Option.toList_some, Option.toList_none, List.cons_append, List.nil_append, Nat.reduceEqDiff, Nat.reduceAdd, not_false_eq_true, not_true_eq_false, and_true, true_and, and_false, false_and, or_true, true_or, or_false, false_or, and_self, or_self, Bool.false_eq_true, show ¬ (1 : Nat) = 2 by decide, show ¬ (1 : Nat) = 3 by decide]
    · rw [← key (nI 99) (by rw [e0]; decide)]
      simp (disch := omega) only [CX7_set, SX7_set_0, SX7_set_1, O56, c_isCode h hn, bI_0, q1, c_in, w64N, w64le, k1, k3, c_of, h0, nI_e0, nI_eq, e0, ge0n, nI_m, nI_add, c_becomes, Option.bind_some, Option.bind_none, if_true, if_false, zr0, zr1, one11, one01, one0, one1, Option.toList_some, Option.toList_none, List.cons_append, List.nil_append, Nat.reduceEqDiff, Nat.reduceAdd, not_false_eq_true, not_true_eq_false, and_true, true_and, and_false, false_and, or_true, true_or, or_false, false_or, and_self, or_self, Bool.false_eq_true]
    · rw [← key (-4) (by rw [e0]; decide)]
      simp (disch := omega) only [CX7_set, SX7_set_0, SX7_set_1, O56, c_isCode h hn, bI_0, q1, c_in, w64N, w64le, k1, k3, c_of, h0, nI_e0, nI_eq, e0, ge0n, nI_m, nI_add, c_becomes, Option.bind_some, Option.bind_none, if_true, if_false, zr0, zr1, one11, one01, one0, one1, Option.toList_some, Option.toList_none, List.cons_append, List.nil_append, Nat.reduceEqDiff, Nat.reduceAdd, not_false_eq_true, not_true_eq_false, and_true, true_and, and_false, false_and, or_true, true_or, or_false, false_or, and_self, or_self, Bool.false_eq_true, one1, show ¬ (3 : Nat) = 2 by decide]
  · by_cases e5 : c j 0 = 5
    · rcases hk with rfl | rfl | rfl
      · rw [← key (nI 7) (by rw [e5]; decide)]
        simp (disch := omega) only [CX7_set, SX7_set_0, SX7_set_1, O56, c_isCode h hn, bI_0, q1, c_in, w64N, w64le, k1, k3, c_of, h0, nI_e0, nI_eq, e0, e5, ge0n, nI_m, nI_add, c_becomes, Option.bind_some, Option.bind_none, if_true, if_false, zr0, zr1, one11, one01, one0, one1, Option.toList_some, Option.toList_none, List.cons_append, List.nil_append, Nat.reduceEqDiff, Nat.reduceAdd, not_false_eq_true, not_true_eq_false, and_true, true_and, and_false, false_and, or_true, true_or, or_false, false_or, and_self, or_self, Bool.false_eq_true, show ¬ (1 : Nat) = 2 by decide, show ¬ (1 : Nat) = 3 by decide]
      · rw [← key (nI 10) (by rw [e5]; decide)]
        simp (disch := omega) only [CX7_set, SX7_set_0, SX7_set_1, O56, c_isCode h hn, bI_0, q1, c_in, w64N, w64le, k1, k3, c_of, h0, nI_e0, nI_eq, e0, e5, ge0n, nI_m, nI_add, c_becomes, Option.bind_some, Option.bind_none, if_true, if_false, zr0, zr1, one11, one01, one0, one1, Option.toList_some, Option.toList_none, List.cons_append, List.nil_append, Nat.reduceEqDiff, Nat.reduceAdd, not_false_eq_true, not_true_eq_false, and_true, true_and, and_false, false_and, or_true, true_or, or_false, false_or, and_self, or_self, Bool.false_eq_true]
      · rw [← key (-4) (by rw [e5]; decide)]
        simp (disch := omega) only [CX7_set, SX7_set_0, SX7_set_1, O56, c_isCode h hn, bI_0, q1, c_in, w64N, w64le, k1, k3, c_of, h0, nI_e0, nI_eq, e0, e5, ge0n, nI_m, nI_add, c_becomes, Option.bind_some, Option.bind_none, if_true, if_false, zr0, zr1, one11, one01, one0, one1, Option.toList_some, Option.toList_none, List.cons_append, List.nil_append, Nat.reduceEqDiff, Nat.reduceAdd, not_false_eq_true, not_true_eq_false, and_true, true_and, and_false, false_and, or_true, true_or, or_false, false_or, and_self, or_self, Bool.false_eq_true, one1, show ¬ (3 : Nat) = 2 by decide]
    · have e14 : 1 ≤ c j 0 ∧ c j 0 ≤ 4 := by omega
      rcases hk with rfl | rfl | rfl
      · rw [← key (nI 7) (by unfold most; rw [if_pos rfl])]
        simp (disch := omega) only [CX7_set, SX7_set_0, SX7_set_1, O56, c_isCode h hn, bI_0, q1, c_in, w64N, w64le, k1, k3, c_of, h0, nI_e0, nI_eq, e0, e5, ge0n, nI_m, nI_add, c_becomes, Option.bind_some, Option.bind_none, if_true, if_false, zr0, zr1, one11, one01, one0, one1, Option.toList_some, Option.toList_none, List.cons_append, List.nil_append, Nat.reduceEqDiff, Nat.reduceAdd, not_false_eq_true, not_true_eq_false, and_true, true_and, and_false, false_and, or_true, true_or, or_false, false_or, and_self, or_self, Bool.false_eq_true, show ¬ (1 : Nat) = 2 by decide, show ¬ (1 : Nat) = 3 by decide]
      · rw [← key (nI 7) (by unfold most; rw [if_neg (by decide), if_neg (fun z => e0 z.2), if_neg (fun z => e5 z.2), if_pos ⟨Or.inl rfl, e14⟩])]
        simp (disch := omega) only [CX7_set, SX7_set_0, SX7_set_1, O56, c_isCode h hn, bI_0, q1, c_in, w64N, w64le, k1, k3, c_of, h0, nI_e0, nI_eq, e0, e5, ge0n, nI_m, nI_add, c_becomes, Option.bind_some, Option.bind_none, if_true, if_false, zr0, zr1, one11, one01, one0, one1, Option.toList_some, Option.toList_none, List.cons_append, List.nil_append, Nat.reduceEqDiff, Nat.reduceAdd, not_false_eq_true, not_true_eq_false, and_true, true_and, and_false, false_and, or_true, true_or, or_false, false_or, and_self, or_self, Bool.false_eq_true, show ¬ (2 : Nat) = 3 by decide]
      · rw [← key (nI 7) (by unfold most; rw [if_neg (by decide), if_neg (fun z => e0 z.2), if_neg (fun z => e5 z.2), if_pos ⟨Or.inr rfl, e14⟩])]
        simp (disch := omega) only [CX7_set, SX7_set_0, SX7_set_1, O56, c_isCode h hn, bI_0, q1, c_in, w64N, w64le, k1, k3, c_of, h0, nI_e0, nI_eq, e0, e5, ge0n, nI_m, nI_add, c_becomes, Option.bind_some, Option.bind_none, if_true, if_false, zr0, zr1, one11, one01, one0, one1, Option.toList_some, Option.toList_none, List.cons_append, List.nil_append, Nat.reduceEqDiff, Nat.reduceAdd, not_false_eq_true, not_true_eq_false, and_true, true_and, and_false, false_and, or_true, true_or, or_false, false_or, and_self, or_self, Bool.false_eq_true, one0, show ¬ (3 : Nat) = 2 by decide]
theorem c_setM_no (h : M0 (A 57) n c ws ou) (hv : PV n c ws ou) {i w v : Int32} (hc : ¬ mayC n c i w v) : dcall mX7_set [.ref 56, .int i, .int w, .int v] (mk Lx F A J) = some (some (.int (-1)), mk Lx F A J) := by
  have hn := hv.1
  rcases iin i n (by omega) with ⟨j, hj, rfl⟩ | g
  · have q1 : ¬ nI j < 0 ∧ nI j < nI n := ⟨nI_pos (by omega), nI_lt hj (by omega)⟩
    by_cases hw : nI 1 ≤ w ∧ w ≤ nI 3
    · obtain ⟨k, hk, rfl⟩ : ∃ k : Nat, (k = 1 ∨ k = 2 ∨ k = 3) ∧ w = nI k := by
        have h0 : ¬ w < 0 := fun z => i32_le z (by decide) hw.1
        obtain ⟨k, hk, rfl⟩ := nI_of h0
        have a1 := (nI_leI (by decide) hk).mp hw.1
        have a2 := (nI_leI hk (by decide)).mp hw.2
        exact ⟨k, by omega, rfl⟩
      rw [c_setM1 h hv hj hk, if_neg]
      intro z
      refine hc ⟨q1, z.1, ?_⟩
      rw [nI_clamp (by omega)]
      exact z.2
    · simp (disch := omega) only [CX7_set, SX7_set_0, SX7_set_1, O56, c_isCode h hn, bI_0, q1, c_in, w64N, w64le, hw, Option.bind_some, Option.bind_none, if_true, if_false, zr0, zr1, one11, one01, one0, one1, Option.toList_some, Option.toList_none, List.cons_append, List.nil_append, Nat.reduceEqDiff, Nat.reduceAdd, not_false_eq_true, not_true_eq_false, and_true, true_and, and_false, false_and, or_true, true_or, or_false, false_or, and_self, or_self, Bool.false_eq_true]
  · simp (disch := omega) only [CX7_set, SX7_set_0, SX7_set_1, O56, c_isCode h hn, bI_0, g, Option.bind_some, Option.bind_none, if_true, if_false, zr0, zr1, one11, one01, one0, one1, Option.toList_some, Option.toList_none, List.cons_append, List.nil_append, Nat.reduceEqDiff, Nat.reduceAdd, not_false_eq_true, not_true_eq_false, and_true, true_and, and_false, false_and, or_true, true_or, or_false, false_or, and_self, or_self, Bool.false_eq_true]
theorem c_setM_yes (h : M0 (A 57) n c ws ou) (hv : PV n c ws ou) {j k u : Nat} (hj : j < n) (hk : k = 1 ∨ k = 2 ∨ k = 3) (hc : mayC n c (nI j) (nI k) (nI u)) : dcall mX7_set [.ref 56, .int (nI j), .int (nI k), .int (nI u)] (mk Lx F A J) = some (some (.int (nI (c j k))), mk Lx F (up A 57 (up (A 57) (5 * j + k) (nI u))) J) := by
  have hn := hv.1
  have h1 := hc.2
  rw [nI_clamp (by omega)] at h1
  rw [c_setM1 h hv hj hk, if_pos h1, h.2.2.1 j hj k (by omega)]
end SETM
section OPS3
variable {Lx : Nat} {xs : Nat → Int32} {σ : dS}
theorem c_setX {F A : Nat → Nat → Int32} {J : Nat → Nat → Int64} {n ou : Nat} {c : Nat → Nat → Nat} {ws : Nat → Nat} (hX : XP F A 12 n c ws ou) (hv : PV n c ws ou) {j k u : Nat} (hj : j < n) (hk : k = 1 ∨ k = 2 ∨ k = 3) : A (12 + 1 + k) j = nI (c j k) := by
  obtain ⟨x0, x1, x2, x3, x4⟩ := hX.2.2.2.1 j hj
  rcases hk with rfl | rfl | rfl
  · exact x1
  · exact x2
  · exact x3
theorem op_set (h : Iv Lx xs σ) (i w v : Int32) : okI Lx xs mX6_set mX7_set [.int i, .int w, .int v] σ := by
  obtain ⟨F, A, J, rfl, hx, hI⟩ := h
  obtain ⟨hT, hP, ⟨hI0, hI1⟩, hR, ⟨hS0, hS1, hS2, hS3⟩, hf, hto⟩ := id hI
  obtain ⟨n, c, ws, ou, hv, hX, hM⟩ := id hP
  have hn := hv.1
  obtain ⟨b, hb, hb2⟩ := c_mayChange (Lx := Lx) (J := J) isP_12 hX hv i w v
  rcases hb2 with ⟨rfl, hc⟩ | ⟨rfl, hc⟩
  · obtain ⟨j, k, u, hj, rfl, rfl, rfl, hu⟩ := mayC_nat hn hc
    have hk : k = 1 ∨ k = 2 ∨ k = 3 := by omega
    refine ⟨nI (c j k), mk Lx F (up A (12 + 1 + k) (up (A (12 + 1 + k)) j (nI u))) J, mk Lx F (up (up A (12 + 1 + k) (up (A (12 + 1 + k)) j (nI u))) 57 (up (A 57) (5 * j + k) (nI u))) J, ?_, ?_, _, _, _, rfl, ?_, ?_⟩
    · have e := c_change (Lx := Lx) (F := F) (A := A) (J := J) isP_12 (nI u) (show j < 24 by omega) hk
      rw [c_setX (J := J) (u := u) hX hv hj hk] at e
      simp (disch := omega) only [CX6_set, SX6_set, G0, Op isP_12, hb, e, one1, Option.bind_some, Option.bind_none, if_true, if_false, zr0, zr1, one11, one01, one0, one1, Option.toList_some, Option.toList_none, List.cons_append, List.nil_append, Nat.reduceEqDiff, Nat.reduceAdd, not_false_eq_true, not_true_eq_false, and_true, true_and, and_false, false_and, or_true, true_or, or_false, false_or, and_self, or_self, Bool.false_eq_true]
    · have e57 : up A (12 + 1 + k) (up (A (12 + 1 + k)) j (nI u)) 57 = A 57 := up_ne _ _ (by omega)
      have hM2 : M0 (up A (12 + 1 + k) (up (A (12 + 1 + k)) j (nI u)) 57) n c ws ou := by rw [e57]; exact hM
      rw [c_setM_yes hM2 hv hj hk hc, e57]
    · rw [up_ne _ _ (by decide), up_ne _ _ (by omega)]
      exact hx
    · refine ⟨(hT.fr (by simp (disch := omega) only [up_eq, up_ne]) (by simp (disch := omega) only [up_eq, up_ne]) (by simp (disch := omega) only [up_eq, up_ne]) (by simp (disch := omega) only [up_eq, up_ne])), ⟨n, up c j (up (c j) k u), ws, ou, PV_set hv hj (by omega), ?_, ?_⟩, ⟨(hI0.fr (by simp (disch := omega) only [up_eq, up_ne]) (fun d _ _ => by simp (disch := omega) only [up_eq, up_ne]) (by simp (disch := omega) only [up_eq, up_ne]) (by simp (disch := omega) only [up_eq, up_ne]) (fun t _ => by simp (disch := omega) only [up_eq, up_ne])), (hI1.fr (by simp (disch := omega) only [up_eq, up_ne]) (fun d _ _ => by simp (disch := omega) only [up_eq, up_ne]) (by simp (disch := omega) only [up_eq, up_ne]) (by simp (disch := omega) only [up_eq, up_ne]) (fun t _ => by simp (disch := omega) only [up_eq, up_ne]))⟩, (hR.fr (by simp (disch := omega) only [up_eq, up_ne]) (by simp (disch := omega) only [up_eq, up_ne]) (by simp (disch := omega) only [up_eq, up_ne]) (by simp (disch := omega) only [up_eq, up_ne]) (by simp (disch := omega) only [up_eq, up_ne]) (by simp (disch := omega) only [up_eq, up_ne])), ⟨(hS0.fr (by simp (disch := omega) only [up_eq, up_ne]) (by simp (disch := omega) only [up_eq, up_ne]) (by simp (disch := omega) only [up_eq, up_ne]) (by simp (disch := omega) only [up_eq, up_ne]) (fun t _ => by simp (disch := omega) only [up_eq, up_ne])), (hS1.fr (by simp (disch := omega) only [up_eq, up_ne]) (by simp (disch := omega) only [up_eq, up_ne]) (by simp (disch := omega) only [up_eq, up_ne]) (by simp (disch := omega) only [up_eq, up_ne]) (fun t _ => by simp (disch := omega) only [up_eq, up_ne])), (hS2.fr (by simp (disch := omega) only [up_eq, up_ne]) (by simp (disch := omega) only [up_eq, up_ne]) (by simp (disch := omega) only [up_eq, up_ne]) (by simp (disch := omega) only [up_eq, up_ne]) (fun t _ => by simp (disch := omega) only [up_eq, up_ne])), (hS3.fr (by simp (disch := omega) only [up_eq, up_ne]) (by simp (disch := omega) only [up_eq, up_ne]) (by simp (disch := omega) only [up_eq, up_ne]) (by simp (disch := omega) only [up_eq, up_ne]) (fun t _ => by simp (disch := omega) only [up_eq, up_ne]))⟩, hf, hto⟩
      · exact (XP_set (w := k) (u := u) (i := j) hX (by omega) (fun z => by omega)).fr rfl (fun d h1 h2 => up_ne _ _ (by omega))
      · rw [up_eq]
        exact M0_set hM hv.1 hj (by omega) (fun z => by omega)
  · refine ⟨(-1), mk Lx F A J, mk Lx F A J, ?_, c_setM_no hM hv hc, F, A, J, rfl, hx, hI⟩
    simp (disch := omega) only [CX6_set, SX6_set, G0, Op isP_12, hb, one0, Option.bind_some, Option.bind_none, if_true, if_false, zr0, zr1, one11, one01, one0, one1, Option.toList_some, Option.toList_none, List.cons_append, List.nil_append, Nat.reduceEqDiff, Nat.reduceAdd, not_false_eq_true, not_true_eq_false, and_true, true_and, and_false, false_and, or_true, true_or, or_false, false_or, and_self, or_self, Bool.false_eq_true]
theorem op_turn (h : Iv Lx xs σ) (i v : Int32) : okI Lx xs mX6_turn mX7_turn [.int i, .int v] σ := by
  obtain ⟨F, A, J, rfl, hx, hI⟩ := h
  obtain ⟨hT, hP, ⟨hI0, hI1⟩, hR, ⟨hS0, hS1, hS2, hS3⟩, hf, hto⟩ := id hI
  obtain ⟨n, c, ws, ou, hv, hX, hM⟩ := id hP
  have hn := hv.1
  rcases iin i n (by omega) with ⟨j, hj, rfl⟩ | g
  · have q1 : ¬ nI j < 0 ∧ nI j < nI n := ⟨nI_pos (by omega), nI_lt hj (by omega)⟩
    have hb := hv.b hj
    have h0 : A 57 (5 * j + 0) = nI (c j 0) := hM.2.2.1 j hj 0 (by omega)
    by_cases e14 : 1 ≤ c j 0 ∧ c j 0 ≤ 4
    · have k1 : nI 1 ≤ nI (c j 0) := nI_le (by omega) (by omega)
      have k4 : nI (c j 0) ≤ nI 4 := nI_le (by omega) (by omega)
      by_cases hw : nI 1 ≤ v ∧ v ≤ nI 4
      · obtain ⟨u, hu, rfl⟩ : ∃ k : Nat, (1 ≤ k ∧ k ≤ 4) ∧ v = nI k := by
          have h0 : ¬ v < 0 := fun z => i32_le z (by decide) hw.1
          obtain ⟨k, hk, rfl⟩ := nI_of h0
          exact ⟨k, ⟨(nI_leI (by decide) hk).mp hw.1, (nI_leI hk (by decide)).mp hw.2⟩, rfl⟩
        have e1 : ¬ u < 1 := by omega
        have e4 : ¬ 4 < u := by omega
        refine ⟨nI (c j 0), mk Lx F (up A 13 (up (A 13) j (nI u))) J, mk Lx F (up (up A 13 (up (A 13) j (nI u))) 57 (up (A 57) (5 * j + 0) (nI u))) J, ?_, ?_, _, _, _, rfl, ?_, ?_⟩
        · have x0 : A 13 j = nI (c j 0) := (hX.2.2.2.1 j hj).1
          simp (disch := omega) only [CX6_turn, SX6_turn, G0, Op isP_12, Gp isP_12, leN, c_hasInstruction isP_12 hX hn, bI_0, q1, c_isCompute isP_12 hX hv hj, e14, nI_ltI, e1, e4, a13, w13, x0, Option.bind_some, Option.bind_none, if_true, if_false, zr0, zr1, one11, one01, one0, one1, Option.toList_some, Option.toList_none, List.cons_append, List.nil_append, Nat.reduceEqDiff, Nat.reduceAdd, not_false_eq_true, not_true_eq_false, and_true, true_and, and_false, false_and, or_true, true_or, or_false, false_or, and_self, or_self, Bool.false_eq_true]
        · have e57 : up A 13 (up (A 13) j (nI u)) 57 = A 57 := up_ne _ _ (by omega)
          have hM2 : M0 (up A 13 (up (A 13) j (nI u)) 57) n c ws ou := by rw [e57]; exact hM
          simp (disch := omega) only [CX7_turn, SX7_turn, O56, c_isCode hM2 hn, bI_0, q1, c_of, e57, h0, c_in, w64N, w64le, k1, k4, hw, one1, nI_m, nI_add, c_becomes, Option.bind_some, Option.bind_none, if_true, if_false, zr0, zr1, one11, one01, one0, one1, Option.toList_some, Option.toList_none, List.cons_append, List.nil_append, Nat.reduceEqDiff, Nat.reduceAdd, not_false_eq_true, not_true_eq_false, and_true, true_and, and_false, false_and, or_true, true_or, or_false, false_or, and_self, or_self, Bool.false_eq_true]
        · rw [up_ne _ _ (by decide), up_ne _ _ (by omega)]
          exact hx
        · refine ⟨(hT.fr (by simp (disch := omega) only [up_eq, up_ne]) (by simp (disch := omega) only [up_eq, up_ne]) (by simp (disch := omega) only [up_eq, up_ne]) (by simp (disch := omega) only [up_eq, up_ne])), ⟨n, up c j (up (c j) 0 u), ws, ou, PV_set hv hj (by omega), ?_, ?_⟩, ⟨(hI0.fr (by simp (disch := omega) only [up_eq, up_ne]) (fun d _ _ => by simp (disch := omega) only [up_eq, up_ne]) (by simp (disch := omega) only [up_eq, up_ne]) (by simp (disch := omega) only [up_eq, up_ne]) (fun t _ => by simp (disch := omega) only [up_eq, up_ne])), (hI1.fr (by simp (disch := omega) only [up_eq, up_ne]) (fun d _ _ => by simp (disch := omega) only [up_eq, up_ne]) (by simp (disch := omega) only [up_eq, up_ne]) (by simp (disch := omega) only [up_eq, up_ne]) (fun t _ => by simp (disch := omega) only [up_eq, up_ne]))⟩, (hR.fr (by simp (disch := omega) only [up_eq, up_ne]) (by simp (disch := omega) only [up_eq, up_ne]) (by simp (disch := omega) only [up_eq, up_ne]) (by simp (disch := omega) only [up_eq, up_ne]) (by simp (disch := omega) only [up_eq, up_ne]) (by simp (disch := omega) only [up_eq, up_ne])), ⟨(hS0.fr (by simp (disch := omega) only [up_eq, up_ne]) (by simp (disch := omega) only [up_eq, up_ne]) (by simp (disch := omega) only [up_eq, up_ne]) (by simp (disch := omega) only [up_eq, up_ne]) (fun t _ => by simp (disch := omega) only [up_eq, up_ne])), (hS1.fr (by simp (disch := omega) only [up_eq, up_ne]) (by simp (disch := omega) only [up_eq, up_ne]) (by simp (disch := omega) only [up_eq, up_ne]) (by simp (disch := omega) only [up_eq, up_ne]) (fun t _ => by simp (disch := omega) only [up_eq, up_ne])), (hS2.fr (by simp (disch := omega) only [up_eq, up_ne]) (by simp (disch := omega) only [up_eq, up_ne]) (by simp (disch := omega) only [up_eq, up_ne]) (by simp (disch := omega) only [up_eq, up_ne]) (fun t _ => by simp (disch := omega) only [up_eq, up_ne])), (hS3.fr (by simp (disch := omega) only [up_eq, up_ne]) (by simp (disch := omega) only [up_eq, up_ne]) (by simp (disch := omega) only [up_eq, up_ne]) (by simp (disch := omega) only [up_eq, up_ne]) (fun t _ => by simp (disch := omega) only [up_eq, up_ne]))⟩, hf, hto⟩
          · exact (XP_set (w := 0) (u := u) (i := j) hX (by omega) (fun z => by omega)).fr rfl (fun d h1 h2 => up_ne _ _ (by omega))
          · rw [up_eq]
            exact M0_set hM hv.1 hj (by omega) (fun z => by omega)
      · refine ⟨(-1), mk Lx F A J, mk Lx F A J, ?_, ?_, F, A, J, rfl, hx, hI⟩
        · by_cases z : v < nI 1
          · simp (disch := omega) only [CX6_turn, SX6_turn, G0, Op isP_12, c_hasInstruction isP_12 hX hn, bI_0, q1, c_isCompute isP_12 hX hv hj, e14, z, Option.bind_some, Option.bind_none, if_true, if_false, zr0, zr1, one11, one01, one0, one1, Option.toList_some, Option.toList_none, List.cons_append, List.nil_append, Nat.reduceEqDiff, Nat.reduceAdd, not_false_eq_true, not_true_eq_false, and_true, true_and, and_false, false_and, or_true, true_or, or_false, false_or, and_self, or_self, Bool.false_eq_true]
          · have z2 : nI 4 < v := by
              rcases Int32.lt_or_le (nI 4) v with y | y
              · exact y
              · exact absurd ⟨Int32.not_lt.mp z, y⟩ hw
            simp (disch := omega) only [CX6_turn, SX6_turn, G0, Op isP_12, c_hasInstruction isP_12 hX hn, bI_0, q1, c_isCompute isP_12 hX hv hj, e14, z, z2, Option.bind_some, Option.bind_none, if_true, if_false, zr0, zr1, one11, one01, one0, one1, Option.toList_some, Option.toList_none, List.cons_append, List.nil_append, Nat.reduceEqDiff, Nat.reduceAdd, not_false_eq_true, not_true_eq_false, and_true, true_and, and_false, false_and, or_true, true_or, or_false, false_or, and_self, or_self, Bool.false_eq_true]
        · simp (disch := omega) only [CX7_turn, SX7_turn, O56, c_isCode hM hn, bI_0, q1, c_of, h0, c_in, w64N, w64le, k1, k4, hw, one0, Option.bind_some, Option.bind_none, if_true, if_false, zr0, zr1, one11, one01, one0, one1, Option.toList_some, Option.toList_none, List.cons_append, List.nil_append, Nat.reduceEqDiff, Nat.reduceAdd, not_false_eq_true, not_true_eq_false, and_true, true_and, and_false, false_and, or_true, true_or, or_false, false_or, and_self, or_self, Bool.false_eq_true]
    · refine ⟨(-1), mk Lx F A J, mk Lx F A J, ?_, ?_, F, A, J, rfl, hx, hI⟩
      · simp (disch := omega) only [CX6_turn, SX6_turn, G0, Op isP_12, c_hasInstruction isP_12 hX hn, bI_0, q1, c_isCompute isP_12 hX hv hj, e14, Option.bind_some, Option.bind_none, if_true, if_false, zr0, zr1, one11, one01, one0, one1, Option.toList_some, Option.toList_none, List.cons_append, List.nil_append, Nat.reduceEqDiff, Nat.reduceAdd, not_false_eq_true, not_true_eq_false, and_true, true_and, and_false, false_and, or_true, true_or, or_false, false_or, and_self, or_self, Bool.false_eq_true]
      · have k14 : ¬ (nI 1 ≤ nI (c j 0) ∧ nI (c j 0) ≤ nI 4) := fun z => e14 ⟨(nI_leI (by decide) (by omega)).mp z.1, (nI_leI (by omega) (by decide)).mp z.2⟩
        simp (disch := omega) only [CX7_turn, SX7_turn, O56, c_isCode hM hn, bI_0, q1, c_of, h0, c_in, w64N, w64le, k14, one0, Option.bind_some, Option.bind_none, if_true, if_false, zr0, zr1, one11, one01, one0, one1, Option.toList_some, Option.toList_none, List.cons_append, List.nil_append, Nat.reduceEqDiff, Nat.reduceAdd, not_false_eq_true, not_true_eq_false, and_true, true_and, and_false, false_and, or_true, true_or, or_false, false_or, and_self, or_self, Bool.false_eq_true]
  · refine ⟨(-1), mk Lx F A J, mk Lx F A J, ?_, ?_, F, A, J, rfl, hx, hI⟩
    · simp (disch := omega) only [CX6_turn, SX6_turn, G0, Op isP_12, c_hasInstruction isP_12 hX hn, bI_0, g, Option.bind_some, Option.bind_none, if_true, if_false, zr0, zr1, one11, one01, one0, one1, Option.toList_some, Option.toList_none, List.cons_append, List.nil_append, Nat.reduceEqDiff, Nat.reduceAdd, not_false_eq_true, not_true_eq_false, and_true, true_and, and_false, false_and, or_true, true_or, or_false, false_or, and_self, or_self, Bool.false_eq_true]
    · simp (disch := omega) only [CX7_turn, SX7_turn, O56, c_isCode hM hn, bI_0, g, one0, Option.bind_some, Option.bind_none, if_true, if_false, zr0, zr1, one11, one01, one0, one1, Option.toList_some, Option.toList_none, List.cons_append, List.nil_append, Nat.reduceEqDiff, Nat.reduceAdd, not_false_eq_true, not_true_eq_false, and_true, true_and, and_false, false_and, or_true, true_or, or_false, false_or, and_self, or_self, Bool.false_eq_true]
end OPS3
