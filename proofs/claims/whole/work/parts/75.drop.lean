section DROP
variable {Lx : Nat} {F A : Nat → Nat → Int32} {J : Nat → Nat → Int64} {P n ou : Nat} {c : Nat → Nat → Nat} {ws : Nat → Nat}
theorem c_move (hP : isP P) {i t : Nat} (hi : i < 24) (ht : t < 24) : ∃ A', dcall mX3_move [.ref P, .int (nI i), .int (nI t)] (mk Lx F A J) = some (none, mk Lx F A' J) ∧ (∀ d, 1 ≤ d → d ≤ 5 → A' (P + d) = up (A (P + d)) t (A (P + d) i)) ∧ ∀ q, (∀ d, 1 ≤ d → d ≤ 5 → q ≠ P + d) → A' q = A q := by
  refine ⟨up (up (up (up (up A (P + 1) (up (A (P + 1)) t (A (P + 1) i))) (P + 2) (up (A (P + 2)) t (A (P + 2) i))) (P + 3) (up (A (P + 3)) t (A (P + 3) i))) (P + 4) (up (A (P + 4)) t (A (P + 4) i))) (P + 5) (up (A (P + 5)) t (A (P + 5) i)), ?_, fun d h1 h2 => ?_, fun q hq => ?_⟩
  · simp (disch := omega) only [CX3_move, SX3_move_0, SX3_move_1, Gp hP, lep hP, ap1 hP, ap2 hP, ap3 hP, ap4 hP, ap5 hP, wp1 hP, wp2 hP, wp3 hP, wp4 hP, wp5 hP, up_ne, Option.bind_some, Option.bind_none, if_true, if_false, zr0, zr1, one11, one01, one0, one1, Option.toList_some, Option.toList_none, List.cons_append, List.nil_append, Nat.reduceEqDiff, Nat.reduceAdd, not_false_eq_true, not_true_eq_false, and_true, true_and, and_false, false_and, or_true, true_or, or_false, false_or, and_self, or_self, Bool.false_eq_true]
  · obtain rfl | rfl | rfl | rfl | rfl : d = 1 ∨ d = 2 ∨ d = 3 ∨ d = 4 ∨ d = 5 := by omega
    all_goals simp (disch := omega) only [up_eq, up_ne]
  · have q1 := hq 1 (by omega) (by omega)
    have q2 := hq 2 (by omega) (by omega)
    have q3 := hq 3 (by omega) (by omega)
    have q4 := hq 4 (by omega) (by omega)
    have q5 := hq 5 (by omega) (by omega)
    rw [up_ne _ _ q5, up_ne _ _ q4, up_ne _ _ q3, up_ne _ _ q2, up_ne _ _ q1]
theorem l_drop (hP : isP P) (hv : PV n c ws ou) (h7 : F P 7 = nI n) {f : Nat} (hf : f < 2 ^ 24) {kp : Nat → Bool} (hk : ∀ i, i < n → (kp i = true ↔ c i 0 = 4 ∨ c i 0 = 5 ∨ f.testBit i = true)) : ∀ k i (A : Nat → Nat → Int32), i + k = n → (∀ d, 1 ≤ d → d ≤ 5 → ∀ q, i ≤ q → q < n → A (P + d) q = nI (c q (d - 1))) → (∀ d, 1 ≤ d → d ≤ 5 → ∀ q, q < sN kp i → A (P + d) q = nI (sC kp c n q (d - 1))) → ∃ A' : Nat → Nat → Int32, (∀ d, 1 ≤ d → d ≤ 5 → ∀ q, q < sN kp n → A' (P + d) q = nI (sC kp c n q (d - 1))) ∧ (∀ q, (∀ d, 1 ≤ d → d ≤ 5 → q ≠ P + d) → A' q = A q) ∧ ∀ X : Option (Option Value × dS), den mX3_dropUnread 56 [some (.ref P), some (.int (nI f)), some (.int (nI (sN kp n))), some (.int (nI n))] [] (mk Lx F A' J) = X → den mX3_dropUnread 4 [some (.ref P), some (.int (nI f)), some (.int (nI (sN kp i))), some (.int (nI i))] [] (mk Lx F A J) = X := by
  have hn := hv.1
  intro k
  induction k with
  | zero =>
    intro i A hi h1 h2
    have e : i = n := by omega
    subst e
    have hlt : ¬ i < i := by omega
    refine ⟨A, h2, fun _ _ => rfl, fun X hX => ?_⟩
    rw [hX3_dropUnread_4]
    simp (disch := omega) only [SX3_dropUnread_0, Gp hP, h7, nI_ltI, hlt, Option.bind_some, Option.bind_none, if_true, if_false, zr0, zr1, one11, one01, one0, one1, Option.toList_some, Option.toList_none, List.cons_append, List.nil_append, Nat.reduceEqDiff, Nat.reduceAdd, not_false_eq_true, not_true_eq_false, and_true, true_and, and_false, false_and, or_true, true_or, or_false, false_or, and_self, or_self, Bool.false_eq_true] at hX ⊢
    exact hX
  | succ k ih =>
    intro i A hi h1 h2
    have hlt : i < n := by omega
    have hb := hv.b hlt
    have hs := sN_le kp i
    have hx0 : A (P + 1) i = nI (c i 0) := h1 1 (by omega) (by omega) i (by omega) hlt
    have bq := bit_eq (m := f) (k := i) (by omega) (by omega)
    by_cases ek : kp i = true
    · obtain ⟨A1, m1, m2, m3⟩ := c_move (Lx := Lx) (F := F) (A := A) (J := J) hP (i := i) (t := sN kp i) (by omega) (by omega)
      obtain ⟨A2, g1, g2, g3⟩ := ih (i + 1) A1 (by omega) (fun d d1 d2 q q1 q2 => by rw [m2 d d1 d2, up_ne _ _ (by omega)]; exact h1 d d1 d2 q (by omega) q2) (fun d d1 d2 q q1 => by
        rw [sN_t ek] at q1
        rw [m2 d d1 d2]
        by_cases z : q = sN kp i
        · rw [z, up_eq, sC_at hlt ek]
          exact h1 d d1 d2 i (Nat.le_refl i) hlt
        · rw [up_ne _ _ z]
          exact h2 d d1 d2 q (by omega))
      refine ⟨A2, g1, fun q hq => by rw [g2 q hq, m3 q hq], fun X hX => ?_⟩
      have := g3 X hX
      rw [sN_t ek] at this
      rw [hX3_dropUnread_4]
      by_cases e4 : c i 0 = 4
      · rw [e4] at hx0
        simp (disch := omega) only [SX3_dropUnread_0, SX3_dropUnread_1, Gp hP, Op hP, lep hP, ap1 hP, h7, nI_ltI, hlt, hx0, m1, nI_add, this, eq_self_iff_true, Option.bind_some, Option.bind_none, if_true, if_false, zr0, zr1, one11, one01, one0, one1, Option.toList_some, Option.toList_none, List.cons_append, List.nil_append, Nat.reduceEqDiff, Nat.reduceAdd, not_false_eq_true, not_true_eq_false, and_true, true_and, and_false, false_and, or_true, true_or, or_false, false_or, and_self, or_self, Bool.false_eq_true]
      · by_cases e5 : c i 0 = 5
        · rw [e5] at hx0
          simp (disch := omega) only [SX3_dropUnread_0, SX3_dropUnread_1, Gp hP, Op hP, lep hP, ap1 hP, h7, nI_ltI, hlt, hx0, nI_eq, m1, nI_add, this, eq_self_iff_true, Option.bind_some, Option.bind_none, if_true, if_false, zr0, zr1, one11, one01, one0, one1, Option.toList_some, Option.toList_none, List.cons_append, List.nil_append, Nat.reduceEqDiff, Nat.reduceAdd, not_false_eq_true, not_true_eq_false, and_true, true_and, and_false, false_and, or_true, true_or, or_false, false_or, and_self, or_self, Bool.false_eq_true]
        · have b1 := bq.mpr (by
            rcases (hk i hlt).mp ek with e | e | e
            · exact absurd e e4
            · exact absurd e e5
            · exact e)
          simp (disch := omega) only [SX3_dropUnread_0, SX3_dropUnread_1, Gp hP, Op hP, lep hP, ap1 hP, h7, nI_ltI, hlt, hx0, nI_eq, e4, e5, b1, m1, nI_add, this, eq_self_iff_true, Option.bind_some, Option.bind_none, if_true, if_false, zr0, zr1, one11, one01, one0, one1, Option.toList_some, Option.toList_none, List.cons_append, List.nil_append, Nat.reduceEqDiff, Nat.reduceAdd, not_false_eq_true, not_true_eq_false, and_true, true_and, and_false, false_and, or_true, true_or, or_false, false_or, and_self, or_self, Bool.false_eq_true]
    · have n4 : ¬ c i 0 = 4 := fun z => ek ((hk i hlt).mpr (Or.inl z))
      have n5 : ¬ c i 0 = 5 := fun z => ek ((hk i hlt).mpr (Or.inr (Or.inl z)))
      have nb : ¬ (nI f >>> (nI i &&& 31)) &&& nI 1 = nI 1 := fun z => ek ((hk i hlt).mpr (Or.inr (Or.inr (bq.mp z))))
      obtain ⟨A2, g1, g2, g3⟩ := ih (i + 1) A (by omega) (fun d d1 d2 q q1 q2 => h1 d d1 d2 q (by omega) q2) (fun d d1 d2 q q1 => by
        rw [sN_f ek] at q1
        exact h2 d d1 d2 q q1)
      refine ⟨A2, g1, g2, fun X hX => ?_⟩
      have := g3 X hX
      rw [sN_f ek] at this
      rw [hX3_dropUnread_4]
      simp (disch := omega) only [SX3_dropUnread_0, SX3_dropUnread_1, Gp hP, lep hP, ap1 hP, h7, nI_ltI, hlt, hx0, nI_eq, n4, n5, nb, nI_add, this, Option.bind_some, Option.bind_none, if_true, if_false, zr0, zr1, one11, one01, one0, one1, Option.toList_some, Option.toList_none, List.cons_append, List.nil_append, Nat.reduceEqDiff, Nat.reduceAdd, not_false_eq_true, not_true_eq_false, and_true, true_and, and_false, false_and, or_true, true_or, or_false, false_or, and_self, or_self, Bool.false_eq_true]
theorem c_drop (hP : isP P) (hX : XP F A P n c ws ou) (hv : PV n c ws ou) {f : Nat} (hf : f < 2 ^ 24) {kp : Nat → Bool} (hk : ∀ i, i < n → (kp i = true ↔ c i 0 = 4 ∨ c i 0 = 5 ∨ f.testBit i = true)) : ∃ A', dcall mX3_dropUnread [.ref P, .int (nI f)] (mk Lx F A J) = some (some (.int (nI (n - sN kp n))), mk Lx (up F P (up (F P) 7 (nI (sN kp n)))) A' J) ∧ XP (up F P (up (F P) 7 (nI (sN kp n)))) A' P (sN kp n) (sC kp c n) ws ou ∧ ∀ q, (∀ d, 1 ≤ d → d ≤ 6 → q ≠ P + d) → A' q = A q := by
  have hn := hv.1
  have hs := sN_le kp n
  obtain ⟨x7, x8, x9, xc, xi, xw⟩ := hX
  obtain ⟨pv, en⟩ := s_PV (kp := kp) hv (fun i hi h5 => (hk i hi).mpr (Or.inr (Or.inl h5)))
  have h6 := hv.2.1
  obtain ⟨A1, h1, h2, h3⟩ := l_drop (Lx := Lx) (J := J) hP hv x7 hf hk n 0 A (by omega) (fun d d1 d2 q _ hq => by
      obtain ⟨y0, y1, y2, y3, y4⟩ := xc q hq
      obtain rfl | rfl | rfl | rfl | rfl : d = 1 ∨ d = 2 ∨ d = 3 ∨ d = 4 ∨ d = 5 := by omega
      · exact y0
      · exact y1
      · exact y2
      · exact y3
      · exact y4) (fun d _ _ q hq => absurd hq (Nat.not_lt_zero q))
  obtain ⟨g, g1, g2⟩ := c_findIfs (Lx := Lx) (F := up F P (up (F P) 7 (nI (sN kp n)))) (A := A1) (J := J) (n := sN kp n) (c := sC kp c n) hP (by omega) (by omega) (by simp only [up_eq]) (by rw [up_eq, up_ne _ _ (by omega), en]; exact x8) (fun i hi => (pv.b hi).1) (fun i hi => h1 1 (by omega) (by omega) i hi)
  refine ⟨up A1 (P + 6) g, ?_, ⟨?_, ?_, ?_, fun i hi => ?_, fun j hj => ?_, fun j hj => ?_⟩, fun q hq => ?_⟩
  · have e := h3 (some (some (.int (nI (n - sN kp n))), mk Lx (up F P (up (F P) 7 (nI (sN kp n)))) (up A1 (P + 6) g) J)) (by
      simp (disch := omega) only [SX3_dropUnread_0, SX3_dropUnread_1, Gp hP, Op hP, Pp hP, x7, nI_s, g1, Option.bind_some, Option.bind_none, if_true, if_false, zr0, zr1, one11, one01, one0, one1, Option.toList_some, Option.toList_none, List.cons_append, List.nil_append, Nat.reduceEqDiff, Nat.reduceAdd, not_false_eq_true, not_true_eq_false, and_true, true_and, and_false, false_and, or_true, true_or, or_false, false_or, and_self, or_self, Bool.false_eq_true])
    rw [sN_0] at e
    simp (disch := omega) only [CX3_dropUnread, SX3_dropUnread_0, SX3_dropUnread_1, e, Option.bind_some, Option.bind_none, if_true, if_false, zr0, zr1, one11, one01, one0, one1, Option.toList_some, Option.toList_none, List.cons_append, List.nil_append, Nat.reduceEqDiff, Nat.reduceAdd, not_false_eq_true, not_true_eq_false, and_true, true_and, and_false, false_and, or_true, true_or, or_false, false_or, and_self, or_self, Bool.false_eq_true]
  · simp only [up_eq]
  · rw [up_eq, up_ne _ _ (by omega), en]; exact x8
  · rw [up_eq, up_ne _ _ (by omega)]; exact x9
  · simp (disch := omega) only [up_ne]
    exact ⟨h1 1 (by omega) (by omega) i hi, h1 2 (by omega) (by omega) i hi, h1 3 (by omega) (by omega) i hi, h1 4 (by omega) (by omega) i hi, h1 5 (by omega) (by omega) i hi⟩
  · rw [up_eq]; exact g2 j hj
  · rw [up_ne _ _ (by omega), h2 (P + 7) (fun d _ _ => by omega)]
    exact xw j (by omega)
  · rw [up_ne _ _ (hq 6 (by omega) (by omega)), h2 q (fun d d1 d2 => hq d d1 (by omega))]
end DROP
