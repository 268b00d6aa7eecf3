/-! a part of an instruction becomes another: both pictures -/
section SET
variable {F A : Nat → Nat → Int32} {P n ou : Nat} {c : Nat → Nat → Nat} {ws : Nat → Nat}
theorem upc_k {i w u : Nat} (hk : w = 0 → c i 0 ≠ 5 ∧ u ≠ 5) (j : Nat) : (up c i (up (c i) w u) j 0 = 5) ↔ (c j 0 = 5) := by
  by_cases e : j = i
  · subst e
    rw [up_eq]
    by_cases ew : 0 = w
    · have := hk ew.symm
      rw [← ew, up_eq]
      omega
    · rw [up_ne _ _ ew]
  · rw [up_ne _ _ e]
theorem upc_nif {i w u : Nat} (hk : w = 0 → c i 0 ≠ 5 ∧ u ≠ 5) : ∀ m, nif (up c i (up (c i) w u)) m = nif c m
  | 0 => rfl
  | m + 1 => by
    rw [nif, nif, upc_nif hk m]
    have := upc_k hk m
    by_cases e : c m 0 = 5
    · rw [if_pos e, if_pos (this.mpr e)]
    · rw [if_neg e, if_neg (fun z => e (this.mp z))]
theorem upc_ipl {i w u : Nat} (hk : w = 0 → c i 0 ≠ 5 ∧ u ≠ 5) (j : Nat) : ∀ m, ipl (up c i (up (c i) w u)) m j = ipl c m j
  | 0 => rfl
  | m + 1 => by
    have := upc_k hk m
    rw [ipl, ipl, upc_ipl hk j m, upc_nif hk]
    simp only [this]
theorem XP_set {i w u : Nat} (h : XP F A P n c ws ou) (hw : w ≤ 3) (hk : w = 0 → c i 0 ≠ 5 ∧ u ≠ 5) : XP F (up A (P + 1 + w) (up (A (P + 1 + w)) i (nI u))) P n (up c i (up (c i) w u)) ws ou := by
  obtain ⟨h1, h2, h3, h4, h5, h6⟩ := h
  have row : ∀ d, 1 ≤ d → d ≤ 5 → ∀ j, j < n → up A (P + 1 + w) (up (A (P + 1 + w)) i (nI u)) (P + d) j = nI (up c i (up (c i) w u) j (d - 1)) := by
    intro d hd1 hd2 j hj
    obtain ⟨x0, x1, x2, x3, x4⟩ := h4 j hj
    have hx : A (P + d) j = nI (c j (d - 1)) := by
      have : d = 1 ∨ d = 2 ∨ d = 3 ∨ d = 4 ∨ d = 5 := by omega
      rcases this with rfl | rfl | rfl | rfl | rfl
      · exact x0
      · exact x1
      · exact x2
      · exact x3
      · exact x4
    by_cases ed : d = w + 1
    · subst ed
      rw [show P + (w + 1) = P + 1 + w by omega, up_eq]
      by_cases ej : j = i
      · subst ej
        rw [up_eq, up_eq, show w + 1 - 1 = w by omega, up_eq]
      · rw [up_ne _ _ ej, up_ne _ _ ej, ← hx]
        congr 1
        omega
    · rw [up_ne _ _ (by omega), hx]
      by_cases ej : j = i
      · subst ej
        rw [up_eq, up_ne _ _ (by omega)]
      · rw [up_ne _ _ ej]
  refine ⟨h1, by rw [upc_nif hk]; exact h2, h3, fun j hj => ⟨row 1 (by omega) (by omega) j hj, row 2 (by omega) (by omega) j hj, row 3 (by omega) (by omega) j hj, row 4 (by omega) (by omega) j hj, row 5 (by omega) (by omega) j hj⟩, fun j hj => ?_, fun j hj => ?_⟩
  · rw [upc_nif hk] at hj
    rw [upc_ipl hk, up_ne _ _ (by omega)]
    exact h5 j hj
  · rw [upc_nif hk] at hj
    rw [up_ne _ _ (by omega)]
    exact h6 j hj
theorem M0_set {a : Nat → Int32} {i w u : Nat} (h : M0 a n c ws ou) (hn : n ≤ 24) (hi : i < n) (hw : w ≤ 3) (hk : w = 0 → c i 0 ≠ 5 ∧ u ≠ 5) : M0 (up a (5 * i + w) (nI u)) n (up c i (up (c i) w u)) ws ou := by
  obtain ⟨h1, h2, h3, h4⟩ := h
  refine ⟨by rw [up_ne _ _ (by omega)]; exact h1, by rw [up_ne _ _ (by omega)]; exact h2, fun j hj v hv => ?_, fun j hj => ?_⟩
  · by_cases e : j = i
    · subst e
      rw [up_eq]
      by_cases e2 : v = w
      · subst e2
        rw [up_eq, up_eq]
      · rw [up_ne _ _ (by omega), up_ne _ _ e2]
        exact h3 j hj v hv
    · rw [up_ne _ _ (by omega), up_ne _ _ e]
      exact h3 j hj v hv
  · rw [upc_nif hk] at hj
    rw [up_ne _ _ (by omega)]
    exact h4 j hj
theorem PV_set {i w u : Nat} (h : PV n c ws ou) (hi : i < n) (hu : (w = 0 ∧ 1 ≤ c i 0 ∧ c i 0 ≤ 4 ∧ 1 ≤ u ∧ u ≤ 4) ∨ (w = 1 ∧ u ≤ 7) ∨ (w = 2 ∧ c i 0 = 0 ∧ u ≤ 99) ∨ (w = 2 ∧ c i 0 = 5 ∧ u ≤ 10) ∨ ((w = 2 ∨ w = 3) ∧ 1 ≤ c i 0 ∧ c i 0 ≤ 4 ∧ u ≤ 7)) : PV n (up c i (up (c i) w u)) ws ou := by
  have hk : w = 0 → c i 0 ≠ 5 ∧ u ≠ 5 := fun e => by omega
  have og : ∀ q, OG c q → OG (up c i (up (c i) w u)) q := fun q hq => hq.cg (fun k _ => by
    by_cases e : k = i
    · rw [e, up_eq, up_ne _ _ (by omega)]
    · rw [up_ne _ _ e])
  obtain ⟨h1, h2, h3, h4, h5⟩ := h
  refine ⟨h1, by rw [upc_nif hk]; exact h2, h3, fun j hj => ?_, fun j hj => h5 j (by rwa [upc_nif hk] at hj)⟩
  rw [upc_nif hk]
  by_cases e : j = i
  · subst e
    obtain ⟨g1, g2, g3, g4, g5, g6⟩ := h4 j hj
    rw [up_eq]
    rcases hu with ⟨rfl, q⟩ | ⟨rfl, q⟩ | ⟨rfl, q⟩ | ⟨rfl, q⟩ | ⟨rfl | rfl, q⟩
    · rw [if_neg (by omega), if_neg (by omega)] at g3
      simp (disch := omega) only [up_eq, up_ne]
      exact ⟨by omega, g2, by rw [if_neg (by omega), if_neg (by omega)]; exact g3, g4, g5, og _ g6⟩
    · simp (disch := omega) only [up_eq, up_ne]
      exact ⟨g1, q, g3, g4, g5, og _ g6⟩
    · simp (disch := omega) only [up_eq, up_ne]
      exact ⟨g1, g2, by rw [if_pos q.1]; exact q.2, g4, g5, og _ g6⟩
    · simp (disch := omega) only [up_eq, up_ne]
      exact ⟨g1, g2, by rw [if_neg (by omega), if_pos q.1]; exact q.2, g4, g5, og _ g6⟩
    · simp (disch := omega) only [up_eq, up_ne]
      exact ⟨g1, g2, by rw [if_neg (by omega), if_neg (by omega)]; exact q.2.2, g4, g5, og _ g6⟩
    · simp (disch := omega) only [up_eq, up_ne]
      exact ⟨g1, g2, g3, q.2.2, g5, og _ g6⟩
  · rw [up_ne _ _ e]
    obtain ⟨g1, g2, g3, g4, g5, g6⟩ := h4 j hj
    exact ⟨g1, g2, g3, g4, g5, og _ g6⟩
theorem XP_wish {j v : Nat} (h : XP F A P n c ws ou) : XP F (up A (P + 7) (up (A (P + 7)) j (nI v))) P n c (up ws j v) ou := by
  obtain ⟨h1, h2, h3, h4, h5, h6⟩ := h
  refine ⟨h1, h2, h3, ?_, ?_, fun k hk => ?_⟩
  · rw [up_ne _ _ (by omega), up_ne _ _ (by omega), up_ne _ _ (by omega), up_ne _ _ (by omega), up_ne _ _ (by omega)]
    exact h4
  · rw [up_ne _ _ (by omega)]
    exact h5
  · rw [up_eq]
    by_cases e : k = j
    · subst e; rw [up_eq, up_eq]
    · rw [up_ne _ _ e, up_ne _ _ e]; exact h6 k hk
theorem M0_wish {a : Nat → Int32} {j v : Nat} (h : M0 a n c ws ou) (hn : n ≤ 24) : M0 (up a (122 + j) (nI v)) n c (up ws j v) ou := by
  obtain ⟨h1, h2, h3, h4⟩ := h
  refine ⟨by rw [up_ne _ _ (by omega)]; exact h1, by rw [up_ne _ _ (by omega)]; exact h2, fun i hi w hw => by rw [up_ne _ _ (by omega)]; exact h3 i hi w hw, fun k hk => ?_⟩
  by_cases e : k = j
  · subst e; rw [up_eq, up_eq]
  · rw [up_ne _ _ (by omega), up_ne _ _ e]; exact h4 k hk
theorem PV_wish {j v : Nat} (h : PV n c ws ou) (hv : v ≤ 2) : PV n c (up ws j v) ou := by
  obtain ⟨h1, h2, h3, h4, h5⟩ := h
  refine ⟨h1, h2, h3, h4, fun k hk => ?_⟩
  by_cases e : k = j
  · subst e; rw [up_eq]; exact hv
  · rw [up_ne _ _ e]; exact h5 k hk
theorem XP_out {v : Nat} (h : XP F A P n c ws ou) : XP (up F P (up (F P) 9 (nI v))) A P n c ws v := by
  obtain ⟨h1, h2, h3, h4, h5, h6⟩ := h
  exact ⟨by rw [up_eq, up_ne _ _ (by decide)]; exact h1, by rw [up_eq, up_ne _ _ (by decide)]; exact h2, by rw [up_eq, up_eq], h4, h5, h6⟩
theorem M0_out {a : Nat → Int32} {v : Nat} (h : M0 a n c ws ou) (hn : n ≤ 24) : M0 (up a 121 (nI v)) n c ws v := by
  obtain ⟨h1, h2, h3, h4⟩ := h
  exact ⟨by rw [up_ne _ _ (by omega)]; exact h1, by rw [up_eq], fun i hi w hw => by rw [up_ne _ _ (by omega)]; exact h3 i hi w hw, fun k hk => by rw [up_ne _ _ (by omega)]; exact h4 k hk⟩
end SET
section OPS2
variable {Lx : Nat} {xs : Nat → Int32} {σ : dS}
theorem op_end (h : Iv Lx xs σ) (v : Int32) : okI Lx xs mX6_end mX7_end [.int v] σ := by
  obtain ⟨F, A, J, rfl, hx, hI⟩ := h
  obtain ⟨hT, hP, ⟨hI0, hI1⟩, hR, ⟨hS0, hS1, hS2, hS3⟩, hf, hto⟩ := id hI
  obtain ⟨t, ht, h1, h2, h3⟩ := id hT
  rcases iin v (t + 1) (by omega) with ⟨b, hb, rfl⟩ | g
  · have e1 : ¬ t < b := by omega
    have e9 : nI b ≤ nI t := nI_le (by omega) (by omega)
    have e8 : ¬ nI b < 0 := nI_pos (by omega)
    refine ⟨nI t, mk Lx (up F 1 (up (F 1) 3 (nI b))) A J, mk Lx (up (up F 1 (up (F 1) 3 (nI b))) 56 (up (F 56) 5 (nI b))) A J, ?_, ?_, _, _, _, rfl, hx, ?_⟩
    · simp (disch := omega) only [CX6_end, SX6_end, G0, G1, P1, h1, nI_l0, nI_ltI, e1, Option.bind_some, Option.bind_none, if_true, if_false, zr0, zr1, one11, one01, one0, one1, Option.toList_some, Option.toList_none, List.cons_append, List.nil_append, Nat.reduceEqDiff, Nat.reduceAdd, not_false_eq_true, not_true_eq_false, and_true, true_and, and_false, false_and, or_true, true_or, or_false, false_or, and_self, or_self, Bool.false_eq_true]
    · simp (disch := omega) only [CX7_end, SX7_end, G56, O56, P56, h2, c_in, w64N, w64le, ge0n, bI_0, e8, e9, up_eq, up_ne, Option.bind_some, Option.bind_none, if_true, if_false, zr0, zr1, one11, one01, one0, one1, Option.toList_some, Option.toList_none, List.cons_append, List.nil_append, Nat.reduceEqDiff, Nat.reduceAdd, not_false_eq_true, not_true_eq_false, and_true, true_and, and_false, false_and, or_true, true_or, or_false, false_or, and_self, or_self, Bool.false_eq_true]
    · exact ⟨⟨b, by omega, (by simp (disch := omega) only [up_eq, up_ne]), (by simp (disch := omega) only [up_eq, up_ne]), fun k hk => h3 k (by omega)⟩, (hP.fr (by simp (disch := omega) only [up_eq, up_ne]) (fun d _ _ => by simp (disch := omega) only [up_eq, up_ne]) (by simp (disch := omega) only [up_eq, up_ne])), ⟨(hI0.fr (by simp (disch := omega) only [up_eq, up_ne]) (fun d _ _ => by simp (disch := omega) only [up_eq, up_ne]) (by simp (disch := omega) only [up_eq, up_ne]) (by simp (disch := omega) only [up_eq, up_ne]) (fun t _ => by simp (disch := omega) only [up_eq, up_ne])), (hI1.fr (by simp (disch := omega) only [up_eq, up_ne]) (fun d _ _ => by simp (disch := omega) only [up_eq, up_ne]) (by simp (disch := omega) only [up_eq, up_ne]) (by simp (disch := omega) only [up_eq, up_ne]) (fun t _ => by simp (disch := omega) only [up_eq, up_ne]))⟩, (hR.fr (by simp (disch := omega) only [up_eq, up_ne]) (by simp (disch := omega) only [up_eq, up_ne]) (by simp (disch := omega) only [up_eq, up_ne]) (by simp (disch := omega) only [up_eq, up_ne]) (by simp (disch := omega) only [up_eq, up_ne]) (by simp (disch := omega) only [up_eq, up_ne])), ⟨(hS0.fr (by simp (disch := omega) only [up_eq, up_ne]) (by simp (disch := omega) only [up_eq, up_ne]) (by simp (disch := omega) only [up_eq, up_ne]) (by simp (disch := omega) only [up_eq, up_ne]) (fun t _ => by simp (disch := omega) only [up_eq, up_ne])), (hS1.fr (by simp (disch := omega) only [up_eq, up_ne]) (by simp (disch := omega) only [up_eq, up_ne]) (by simp (disch := omega) only [up_eq, up_ne]) (by simp (disch := omega) only [up_eq, up_ne]) (fun t _ => by simp (disch := omega) only [up_eq, up_ne])), (hS2.fr (by simp (disch := omega) only [up_eq, up_ne]) (by simp (disch := omega) only [up_eq, up_ne]) (by simp (disch := omega) only [up_eq, up_ne]) (by simp (disch := omega) only [up_eq, up_ne]) (fun t _ => by simp (disch := omega) only [up_eq, up_ne])), (hS3.fr (by simp (disch := omega) only [up_eq, up_ne]) (by simp (disch := omega) only [up_eq, up_ne]) (by simp (disch := omega) only [up_eq, up_ne]) (by simp (disch := omega) only [up_eq, up_ne]) (fun t _ => by simp (disch := omega) only [up_eq, up_ne]))⟩, (by simp (disch := omega) only [up_eq, up_ne]; exact hf), (by simp (disch := omega) only [up_eq, up_ne]; exact hto)⟩
  · refine ⟨(-1), mk Lx F A J, mk Lx F A J, ?_, ?_, F, A, J, rfl, hx, hI⟩
    · by_cases z : v < 0
      · simp only [CX6_end, SX6_end, G0, G1, z, Option.bind_some, Option.bind_none, if_true, if_false, zr0, zr1, one11, one01, one0, one1, Option.toList_some, Option.toList_none, List.cons_append, List.nil_append, Nat.reduceEqDiff, Nat.reduceAdd, not_false_eq_true, not_true_eq_false, and_true, true_and, and_false, false_and, or_true, true_or, or_false, false_or, and_self, or_self, Bool.false_eq_true]
      · have : nI t < v := by
          rcases Int32.lt_or_le (nI t) v with y | y
          · exact y
          · exact absurd ((in_le (by omega)).mp ⟨z, y⟩) g
        simp only [CX6_end, SX6_end, G0, G1, h1, z, this, Option.bind_some, Option.bind_none, if_true, if_false, zr0, zr1, one11, one01, one0, one1, Option.toList_some, Option.toList_none, List.cons_append, List.nil_append, Nat.reduceEqDiff, Nat.reduceAdd, not_false_eq_true, not_true_eq_false, and_true, true_and, and_false, false_and, or_true, true_or, or_false, false_or, and_self, or_self, Bool.false_eq_true]
    · have g2 : ¬ (¬ v < 0 ∧ v ≤ nI t) := fun z => g ((in_le (by omega)).mp z)
      simp (disch := omega) only [CX7_end, SX7_end, G56, h2, c_in, w64N, w64le, ge0n, bI_0, g2, Option.bind_some, Option.bind_none, if_true, if_false, zr0, zr1, one11, one01, one0, one1, Option.toList_some, Option.toList_none, List.cons_append, List.nil_append, Nat.reduceEqDiff, Nat.reduceAdd, not_false_eq_true, not_true_eq_false, and_true, true_and, and_false, false_and, or_true, true_or, or_false, false_or, and_self, or_self, Bool.false_eq_true]
theorem op_value (h : Iv Lx xs σ) (v : Int32) : okI Lx xs mX6_value mX7_value [.int v] σ := by
  obtain ⟨F, A, J, rfl, hx, hI⟩ := h
  obtain ⟨hT, hP, ⟨hI0, hI1⟩, hR, ⟨hS0, hS1, hS2, hS3⟩, hf, hto⟩ := id hI
  rcases iin v 8 (by omega) with ⟨b, hb, rfl⟩ | g
  · have e1 : b < 8 := by omega
    have e9 : nI b ≤ nI 7 := nI_le (by omega) (by omega)
    have e8 : ¬ nI b < 0 := nI_pos (by omega)
    rcases id hR with ⟨r1, r2⟩ | ⟨r1, r2, r3, r4⟩
    · refine ⟨nI 0, mk Lx F A J, mk Lx F A J, ?_, ?_, F, A, J, rfl, hx, hI⟩
      · simp (disch := omega) only [CX6_value, SX6_value, G0, r1, nI_l0, nI_ltI, e1, Option.bind_some, Option.bind_none, if_true, if_false, zr0, zr1, one11, one01, one0, one1, Option.toList_some, Option.toList_none, List.cons_append, List.nil_append, Nat.reduceEqDiff, Nat.reduceAdd, not_false_eq_true, not_true_eq_false, and_true, true_and, and_false, false_and, or_true, true_or, or_false, false_or, and_self, or_self, Bool.false_eq_true, one0]
      · simp (disch := omega) only [CX7_value, SX7_value, G56, r2, c_in, w64N, w64le, ge0n, bI_0, e8, e9, Option.bind_some, Option.bind_none, if_true, if_false, zr0, zr1, one11, one01, one0, one1, Option.toList_some, Option.toList_none, List.cons_append, List.nil_append, Nat.reduceEqDiff, Nat.reduceAdd, not_false_eq_true, not_true_eq_false, and_true, true_and, and_false, false_and, or_true, true_or, or_false, false_or, and_self, or_self, Bool.false_eq_true, one0]
    · refine ⟨A 28 b, mk Lx F A J, mk Lx F A J, ?_, ?_, F, A, J, rfl, hx, hI⟩
      · simp (disch := omega) only [CX6_value, SX6_value, G0, Gm isM_27, leN, r1, nI_l0, nI_ltI, e1, Option.bind_some, Option.bind_none, if_true, if_false, zr0, zr1, one11, one01, one0, one1, Option.toList_some, Option.toList_none, List.cons_append, List.nil_append, Nat.reduceEqDiff, Nat.reduceAdd, not_false_eq_true, not_true_eq_false, and_true, true_and, and_false, false_and, or_true, true_or, or_false, false_or, and_self, or_self, Bool.false_eq_true, one1, am1 isM_27]
      · simp (disch := omega) only [CX7_value, SX7_value, G56, leN, r2, c_in, w64N, w64le, ge0n, bI_0, e8, e9, Option.bind_some, Option.bind_none, if_true, if_false, zr0, zr1, one11, one01, one0, one1, Option.toList_some, Option.toList_none, List.cons_append, List.nil_append, Nat.reduceEqDiff, Nat.reduceAdd, not_false_eq_true, not_true_eq_false, and_true, true_and, and_false, false_and, or_true, true_or, or_false, false_or, and_self, or_self, Bool.false_eq_true, one1, a67, r4]
  · refine ⟨(-1), mk Lx F A J, mk Lx F A J, ?_, ?_, F, A, J, rfl, hx, hI⟩
    · by_cases z : v < 0
      · simp only [CX6_value, SX6_value, z, Option.bind_some, Option.bind_none, if_true, if_false, zr0, zr1, one11, one01, one0, one1, Option.toList_some, Option.toList_none, List.cons_append, List.nil_append, Nat.reduceEqDiff, Nat.reduceAdd, not_false_eq_true, not_true_eq_false, and_true, true_and, and_false, false_and, or_true, true_or, or_false, false_or, and_self, or_self, Bool.false_eq_true]
      · have : ¬ v < nI 8 := fun y => g ⟨z, y⟩
        simp only [CX6_value, SX6_value, z, this, Option.bind_some, Option.bind_none, if_true, if_false, zr0, zr1, one11, one01, one0, one1, Option.toList_some, Option.toList_none, List.cons_append, List.nil_append, Nat.reduceEqDiff, Nat.reduceAdd, not_false_eq_true, not_true_eq_false, and_true, true_and, and_false, false_and, or_true, true_or, or_false, false_or, and_self, or_self, Bool.false_eq_true]
    · have g2 : ¬ (¬ v < 0 ∧ v ≤ nI 7) := fun z => g ((in_le (by omega)).mp z)
      simp (disch := omega) only [CX7_value, SX7_value, c_in, w64N, w64le, ge0n, bI_0, g2, Option.bind_some, Option.bind_none, if_true, if_false, zr0, zr1, one11, one01, one0, one1, Option.toList_some, Option.toList_none, List.cons_append, List.nil_append, Nat.reduceEqDiff, Nat.reduceAdd, not_false_eq_true, not_true_eq_false, and_true, true_and, and_false, false_and, or_true, true_or, or_false, false_or, and_self, or_self, Bool.false_eq_true]
theorem op_spent (h : Iv Lx xs σ) : okI Lx xs mX6_spent mX7_spent [] σ := by
  obtain ⟨F, A, J, rfl, hx, hI⟩ := h
  obtain ⟨hT, hP, ⟨hI0, hI1⟩, hR, ⟨hS0, hS1, hS2, hS3⟩, hf, hto⟩ := id hI
  rcases id hR with ⟨r1, r2⟩ | ⟨r1, r2, r3, r4⟩
  · refine ⟨(-4), mk Lx F A J, mk Lx F A J, ?_, ?_, F, A, J, rfl, hx, hI⟩
    · simp (disch := omega) only [CX6_spent, SX6_spent, G0, r1, Option.bind_some, Option.bind_none, if_true, if_false, zr0, zr1, one11, one01, one0, one1, Option.toList_some, Option.toList_none, List.cons_append, List.nil_append, Nat.reduceEqDiff, Nat.reduceAdd, not_false_eq_true, not_true_eq_false, and_true, true_and, and_false, false_and, or_true, true_or, or_false, false_or, and_self, or_self, Bool.false_eq_true, one0]
    · simp (disch := omega) only [CX7_spent, SX7_spent, G56, r2, Option.bind_some, Option.bind_none, if_true, if_false, zr0, zr1, one11, one01, one0, one1, Option.toList_some, Option.toList_none, List.cons_append, List.nil_append, Nat.reduceEqDiff, Nat.reduceAdd, not_false_eq_true, not_true_eq_false, and_true, true_and, and_false, false_and, or_true, true_or, or_false, false_or, and_self, or_self, Bool.false_eq_true, one0]
  · refine ⟨F 27 4, mk Lx F A J, mk Lx F A J, ?_, ?_, F, A, J, rfl, hx, hI⟩
    · simp (disch := omega) only [CX6_spent, SX6_spent, G0, Gm isM_27, r1, Option.bind_some, Option.bind_none, if_true, if_false, zr0, zr1, one11, one01, one0, one1, Option.toList_some, Option.toList_none, List.cons_append, List.nil_append, Nat.reduceEqDiff, Nat.reduceAdd, not_false_eq_true, not_true_eq_false, and_true, true_and, and_false, false_and, or_true, true_or, or_false, false_or, and_self, or_self, Bool.false_eq_true, one1]
    · simp (disch := omega) only [CX7_spent, SX7_spent, G56, r2, r3, Option.bind_some, Option.bind_none, if_true, if_false, zr0, zr1, one11, one01, one0, one1, Option.toList_some, Option.toList_none, List.cons_append, List.nil_append, Nat.reduceEqDiff, Nat.reduceAdd, not_false_eq_true, not_true_eq_false, and_true, true_and, and_false, false_and, or_true, true_or, or_false, false_or, and_self, or_self, Bool.false_eq_true, one1]
theorem op_want (h : Iv Lx xs σ) (j v : Int32) : okI Lx xs mX6_want mX7_want [.int j, .int v] σ := by
  obtain ⟨F, A, J, rfl, hx, hI⟩ := h
  obtain ⟨hT, hP, ⟨hI0, hI1⟩, hR, ⟨hS0, hS1, hS2, hS3⟩, hf, hto⟩ := id hI
  obtain ⟨n, c, ws, ou, hv, hX, hM⟩ := id hP
  have hn6 := hv.2.1
  rcases iin j (nif c n) (by omega) with ⟨a, ha, rfl⟩ | g
  · have q1 : ¬ nI a < 0 ∧ nI a < nI (nif c n) := ⟨nI_pos (by omega), nI_lt ha (by omega)⟩
    rcases iin v 3 (by omega) with ⟨b, hb, rfl⟩ | g2
    · have e1 : ¬ 2 < b := by omega
      have e9 : nI b ≤ nI 2 := nI_le (by omega) (by omega)
      have e8 : ¬ nI b < 0 := nI_pos (by omega)
      have e7 : A 57 (122 + a) = nI (ws a) := hM.2.2.2 a ha
      refine ⟨nI (ws a), mk Lx F (up A 19 (up (A 19) a (nI b))) J, mk Lx F (up (up A 19 (up (A 19) a (nI b))) 57 (up (A 57) (122 + a) (nI b))) J, ?_, ?_, _, _, _, rfl, ?_, ?_⟩
      · have x6 : A 19 a = nI (ws a) := hX.2.2.2.2.2 a ha
        simp (disch := omega) only [CX6_want, SX6_want, G0, Op isP_12, Gp isP_12, leN, c_hasIf isP_12 hX, bI_0, q1, nI_l0, nI_ltI, e1, a19, w19, x6, Option.bind_some, Option.bind_none, if_true, if_false, zr0, zr1, one11, one01, one0, one1, Option.toList_some, Option.toList_none, List.cons_append, List.nil_append, Nat.reduceEqDiff, Nat.reduceAdd, not_false_eq_true, not_true_eq_false, and_true, true_and, and_false, false_and, or_true, true_or, or_false, false_or, and_self, or_self, Bool.false_eq_true]
      · have hM2 : M0 (up A 19 (up (A 19) a (nI b)) 57) n c ws ou := by rw [up_ne _ _ (by decide)]; exact hM
        simp (disch := omega) only [CX7_want, SX7_want, O56, c_isIf hM2 hv, bI_0, q1, c_in, w64N, w64le, ge0n, e8, e9, nI_add, c_becomes, up_ne, e7, Option.bind_some, Option.bind_none, if_true, if_false, zr0, zr1, one11, one01, one0, one1, Option.toList_some, Option.toList_none, List.cons_append, List.nil_append, Nat.reduceEqDiff, Nat.reduceAdd, not_false_eq_true, not_true_eq_false, and_true, true_and, and_false, false_and, or_true, true_or, or_false, false_or, and_self, or_self, Bool.false_eq_true]
      · rw [up_ne _ _ (by decide), up_ne _ _ (by decide)]
        exact hx
      · refine ⟨(hT.fr (by simp (disch := omega) only [up_eq, up_ne]) (by simp (disch := omega) only [up_eq, up_ne]) (by simp (disch := omega) only [up_eq, up_ne]) (by simp (disch := omega) only [up_eq, up_ne])), ⟨n, c, up ws a b, ou, PV_wish hv (by omega), ?_, ?_⟩, ⟨(hI0.fr (by simp (disch := omega) only [up_eq, up_ne]) (fun d _ _ => by simp (disch := omega) only [up_eq, up_ne]) (by simp (disch := omega) only [up_eq, up_ne]) (by simp (disch := omega) only [up_eq, up_ne]) (fun t _ => by simp (disch := omega) only [up_eq, up_ne])), (hI1.fr (by simp (disch := omega) only [up_eq, up_ne]) (fun d _ _ => by simp (disch := omega) only [up_eq, up_ne]) (by simp (disch := omega) only [up_eq, up_ne]) (by simp (disch := omega) only [up_eq, up_ne]) (fun t _ => by simp (disch := omega) only [up_eq, up_ne]))⟩, (hR.fr (by simp (disch := omega) only [up_eq, up_ne]) (by simp (disch := omega) only [up_eq, up_ne]) (by simp (disch := omega) only [up_eq, up_ne]) (by simp (disch := omega) only [up_eq, up_ne]) (by simp (disch := omega) only [up_eq, up_ne]) (by simp (disch := omega) only [up_eq, up_ne])), ⟨(hS0.fr (by simp (disch := omega) only [up_eq, up_ne]) (by simp (disch := omega) only [up_eq, up_ne]) (by simp (disch := omega) only [up_eq, up_ne]) (by simp (disch := omega) only [up_eq, up_ne]) (fun t _ => by simp (disch := omega) only [up_eq, up_ne])), (hS1.fr (by simp (disch := omega) only [up_eq, up_ne]) (by simp (disch := omega) only [up_eq, up_ne]) (by simp (disch := omega) only [up_eq, up_ne]) (by simp (disch := omega) only [up_eq, up_ne]) (fun t _ => by simp (disch := omega) only [up_eq, up_ne])), (hS2.fr (by simp (disch := omega) only [up_eq, up_ne]) (by simp (disch := omega) only [up_eq, up_ne]) (by simp (disch := omega) only [up_eq, up_ne]) (by simp (disch := omega) only [up_eq, up_ne]) (fun t _ => by simp (disch := omega) only [up_eq, up_ne])), (hS3.fr (by simp (disch := omega) only [up_eq, up_ne]) (by simp (disch := omega) only [up_eq, up_ne]) (by simp (disch := omega) only [up_eq, up_ne]) (by simp (disch := omega) only [up_eq, up_ne]) (fun t _ => by simp (disch := omega) only [up_eq, up_ne]))⟩, hf, hto⟩
        · exact (XP_wish (v := b) hX).fr rfl (fun d h1 h2 => up_ne _ _ (by omega))
        · rw [up_eq]
          exact M0_wish hM hv.1
    · refine ⟨(-1), mk Lx F A J, mk Lx F A J, ?_, ?_, F, A, J, rfl, hx, hI⟩
      · by_cases z : v < 0
        · simp only [CX6_want, SX6_want, G0, Op isP_12, c_hasIf isP_12 hX, bI_0, q1, z, Option.bind_some, Option.bind_none, if_true, if_false, zr0, zr1, one11, one01, one0, one1, Option.toList_some, Option.toList_none, List.cons_append, List.nil_append, Nat.reduceEqDiff, Nat.reduceAdd, not_false_eq_true, not_true_eq_false, and_true, true_and, and_false, false_and, or_true, true_or, or_false, false_or, and_self, or_self, Bool.false_eq_true]
        · have : nI 2 < v := by
            rcases Int32.lt_or_le (nI 2) v with y | y
            · exact y
            · exact absurd ((in_le (by omega)).mp ⟨z, y⟩) g2
          simp only [CX6_want, SX6_want, G0, Op isP_12, c_hasIf isP_12 hX, bI_0, q1, z, this, Option.bind_some, Option.bind_none, if_true, if_false, zr0, zr1, one11, one01, one0, one1, Option.toList_some, Option.toList_none, List.cons_append, List.nil_append, Nat.reduceEqDiff, Nat.reduceAdd, not_false_eq_true, not_true_eq_false, and_true, true_and, and_false, false_and, or_true, true_or, or_false, false_or, and_self, or_self, Bool.false_eq_true]
      · have g3 : ¬ (¬ v < 0 ∧ v ≤ nI 2) := fun z => g2 ((in_le (by omega)).mp z)
        simp (disch := omega) only [CX7_want, SX7_want, O56, c_isIf hM hv, bI_0, q1, c_in, w64N, w64le, ge0n, g3, Option.bind_some, Option.bind_none, if_true, if_false, zr0, zr1, one11, one01, one0, one1, Option.toList_some, Option.toList_none, List.cons_append, List.nil_append, Nat.reduceEqDiff, Nat.reduceAdd, not_false_eq_true, not_true_eq_false, and_true, true_and, and_false, false_and, or_true, true_or, or_false, false_or, and_self, or_self, Bool.false_eq_true]
  · refine ⟨(-1), mk Lx F A J, mk Lx F A J, ?_, ?_, F, A, J, rfl, hx, hI⟩
    · simp only [CX6_want, SX6_want, G0, Op isP_12, c_hasIf isP_12 hX, bI_0, g, Option.bind_some, Option.bind_none, if_true, if_false, zr0, zr1, one11, one01, one0, one1, Option.toList_some, Option.toList_none, List.cons_append, List.nil_append, Nat.reduceEqDiff, Nat.reduceAdd, not_false_eq_true, not_true_eq_false, and_true, true_and, and_false, false_and, or_true, true_or, or_false, false_or, and_self, or_self, Bool.false_eq_true]
    · simp only [CX7_want, SX7_want, O56, c_isIf hM hv, bI_0, g, Option.bind_some, Option.bind_none, if_true, if_false, zr0, zr1, one11, one01, one0, one1, Option.toList_some, Option.toList_none, List.cons_append, List.nil_append, Nat.reduceEqDiff, Nat.reduceAdd, not_false_eq_true, not_true_eq_false, and_true, true_and, and_false, false_and, or_true, true_or, or_false, false_or, and_self, or_self, Bool.false_eq_true]
theorem op_out (h : Iv Lx xs σ) (v : Int32) : okI Lx xs mX6_out mX7_out [.int v] σ := by
  obtain ⟨F, A, J, rfl, hx, hI⟩ := h
  obtain ⟨hT, hP, ⟨hI0, hI1⟩, hR, ⟨hS0, hS1, hS2, hS3⟩, hf, hto⟩ := id hI
  obtain ⟨n, c, ws, ou, hv, hX, hM⟩ := id hP
  rcases iin v 256 (by omega) with ⟨b, hb, rfl⟩ | g2
  · have e1 : ¬ 255 < b := by omega
    have e9 : nI b ≤ nI 255 := nI_le (by omega) (by omega)
    have e8 : ¬ nI b < 0 := nI_pos (by omega)
    refine ⟨nI ou, mk Lx (up F 12 (up (F 12) 9 (nI b))) A J, mk Lx (up F 12 (up (F 12) 9 (nI b))) (up A 57 (up (A 57) 121 (nI b))) J, ?_, ?_, _, _, _, rfl, ?_, ?_⟩
    · simp (disch := omega) only [CX6_out, SX6_out, G0, Gp isP_12, Pp isP_12, hX.2.2.1, nI_l0, nI_ltI, e1, Option.bind_some, Option.bind_none, if_true, if_false, zr0, zr1, one11, one01, one0, one1, Option.toList_some, Option.toList_none, List.cons_append, List.nil_append, Nat.reduceEqDiff, Nat.reduceAdd, not_false_eq_true, not_true_eq_false, and_true, true_and, and_false, false_and, or_true, true_or, or_false, false_or, and_self, or_self, Bool.false_eq_true]
    · simp (disch := omega) only [CX7_out, SX7_out, O56, c_in, w64N, w64le, ge0n, bI_0, e8, e9, c_becomes, hM.2.1, Option.bind_some, Option.bind_none, if_true, if_false, zr0, zr1, one11, one01, one0, one1, Option.toList_some, Option.toList_none, List.cons_append, List.nil_append, Nat.reduceEqDiff, Nat.reduceAdd, not_false_eq_true, not_true_eq_false, and_true, true_and, and_false, false_and, or_true, true_or, or_false, false_or, and_self, or_self, Bool.false_eq_true]
    · rw [up_ne _ _ (by decide)]
      exact hx
    · refine ⟨(hT.fr (by simp (disch := omega) only [up_eq, up_ne]) (by simp (disch := omega) only [up_eq, up_ne]) (by simp (disch := omega) only [up_eq, up_ne]) (by simp (disch := omega) only [up_eq, up_ne])), ⟨n, c, ws, b, ⟨hv.1, hv.2.1, by omega, hv.2.2.2⟩, ?_, ?_⟩, ⟨(hI0.fr (by simp (disch := omega) only [up_eq, up_ne]) (fun d _ _ => by simp (disch := omega) only [up_eq, up_ne]) (by simp (disch := omega) only [up_eq, up_ne]) (by simp (disch := omega) only [up_eq, up_ne]) (fun t _ => by simp (disch := omega) only [up_eq, up_ne])), (hI1.fr (by simp (disch := omega) only [up_eq, up_ne]) (fun d _ _ => by simp (disch := omega) only [up_eq, up_ne]) (by simp (disch := omega) only [up_eq, up_ne]) (by simp (disch := omega) only [up_eq, up_ne]) (fun t _ => by simp (disch := omega) only [up_eq, up_ne]))⟩, (hR.fr (by simp (disch := omega) only [up_eq, up_ne]) (by simp (disch := omega) only [up_eq, up_ne]) (by simp (disch := omega) only [up_eq, up_ne]) (by simp (disch := omega) only [up_eq, up_ne]) (by simp (disch := omega) only [up_eq, up_ne]) (by simp (disch := omega) only [up_eq, up_ne])), ⟨(hS0.fr (by simp (disch := omega) only [up_eq, up_ne]) (by simp (disch := omega) only [up_eq, up_ne]) (by simp (disch := omega) only [up_eq, up_ne]) (by simp (disch := omega) only [up_eq, up_ne]) (fun t _ => by simp (disch := omega) only [up_eq, up_ne])), (hS1.fr (by simp (disch := omega) only [up_eq, up_ne]) (by simp (disch := omega) only [up_eq, up_ne]) (by simp (disch := omega) only [up_eq, up_ne]) (by simp (disch := omega) only [up_eq, up_ne]) (fun t _ => by simp (disch := omega) only [up_eq, up_ne])), (hS2.fr (by simp (disch := omega) only [up_eq, up_ne]) (by simp (disch := omega) only [up_eq, up_ne]) (by simp (disch := omega) only [up_eq, up_ne]) (by simp (disch := omega) only [up_eq, up_ne]) (fun t _ => by simp (disch := omega) only [up_eq, up_ne])), (hS3.fr (by simp (disch := omega) only [up_eq, up_ne]) (by simp (disch := omega) only [up_eq, up_ne]) (by simp (disch := omega) only [up_eq, up_ne]) (by simp (disch := omega) only [up_eq, up_ne]) (fun t _ => by simp (disch := omega) only [up_eq, up_ne]))⟩, (by simp (disch := omega) only [up_eq, up_ne]; exact hf), (by simp (disch := omega) only [up_eq, up_ne]; exact hto)⟩
      · exact (XP_out (v := b) hX).fr rfl (fun d h1 h2 => up_ne _ _ (by omega))
      · rw [up_eq]
        exact M0_out hM hv.1
  · refine ⟨(-1), mk Lx F A J, mk Lx F A J, ?_, ?_, F, A, J, rfl, hx, hI⟩
    · by_cases z : v < 0
      · simp only [CX6_out, SX6_out, z, Option.bind_some, Option.bind_none, if_true, if_false, zr0, zr1, one11, one01, one0, one1, Option.toList_some, Option.toList_none, List.cons_append, List.nil_append, Nat.reduceEqDiff, Nat.reduceAdd, not_false_eq_true, not_true_eq_false, and_true, true_and, and_false, false_and, or_true, true_or, or_false, false_or, and_self, or_self, Bool.false_eq_true]
      · have : nI 255 < v := by
          rcases Int32.lt_or_le (nI 255) v with y | y
          · exact y
          · exact absurd ((in_le (by omega)).mp ⟨z, y⟩) g2
        simp only [CX6_out, SX6_out, z, this, Option.bind_some, Option.bind_none, if_true, if_false, zr0, zr1, one11, one01, one0, one1, Option.toList_some, Option.toList_none, List.cons_append, List.nil_append, Nat.reduceEqDiff, Nat.reduceAdd, not_false_eq_true, not_true_eq_false, and_true, true_and, and_false, false_and, or_true, true_or, or_false, false_or, and_self, or_self, Bool.false_eq_true]
    · have g3 : ¬ (¬ v < 0 ∧ v ≤ nI 255) := fun z => g2 ((in_le (by omega)).mp z)
      simp (disch := omega) only [CX7_out, SX7_out, c_in, w64N, w64le, ge0n, bI_0, g3, Option.bind_some, Option.bind_none, if_true, if_false, zr0, zr1, one11, one01, one0, one1, Option.toList_some, Option.toList_none, List.cons_append, List.nil_append, Nat.reduceEqDiff, Nat.reduceAdd, not_false_eq_true, not_true_eq_false, and_true, true_and, and_false, false_and, or_true, true_or, or_false, false_or, and_self, or_self, Bool.false_eq_true]
end OPS2
