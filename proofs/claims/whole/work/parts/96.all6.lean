section ALL6
variable {Lx : Nat} {F A : Nat → Nat → Int32} {J : Nat → Nat → Int64} {b : Nat → Nat} {t n d : Nat} {c : Nat → Nat → Nat} {o : Nat → Nat}
theorem c_stmOk (h : cx F A b t n c d o) (hv : PV n c (fun _ => 2) 255) (hsv : SV n c d o) {s e kd : Nat} (hs : s ≤ e) (he : e ≤ t) (h6 : F 1 6 = nI s) (h7 : F 1 7 = nI e) (hk : kn b s e = kd) (hk5 : kd ≤ 5) (hr : n < 24 ∧ (kd = 5 → nif c n < 6)) (hok : (stm b t kd e).1 = true) : ∃ F' A', dcall mX5_takeStatement [.ref 1] (mk Lx F A J) = some (some (.int (nI 1)), mk Lx F' A' J) ∧ cx F' A' b t (n + 1) (up c n (rowf kd (vr b t e).2.1 (r2 b t kd e).2.1 (r3 b t kd e).2.1 (top d o))) (if kd = 5 then d + 1 else d) (if kd = 5 then up o d (2 * nif c n + 1) else o) ∧ F' 1 7 = nI (stm b t kd e).2.2 ∧ F' 1 8 = F 1 8 ∧ (∀ p, p ≠ 1 → p ≠ 2 → F' p = F p) ∧ ∀ q, q < 3 ∨ 9 < q → q ≠ 11 → A' q = A q := by
  obtain ⟨f, f3, f4, -, fo⟩ := c_stm4 (Lx := Lx) (J := J) h hv hs he h6 h7 hk hk5 hr
  obtain ⟨f7, f8, go⟩ := fo hok
  obtain ⟨hT, hX, hd, ho⟩ := h
  have hn6 := hv.2.1
  obtain ⟨s1, s2, s3, s4⟩ := hsv
  have hX1 : XP (up F 1 f) A 2 n c (fun _ => 2) 255 := hX.fr (up_ne _ _ (by omega)) (fun _ _ _ => rfl)
  obtain ⟨F1, A1, a1, a2, a3, a4⟩ := c_append (Lx := Lx) (J := J) isP_2 hX1 (kd := kd) (v1 := (vr b t e).2.1) (v2 := (r2 b t kd e).2.1) (v3 := (r3 b t kd e).2.1) (g := top d o) hr.1 hk5 hr.2
  have e1 : F1 1 = f := by rw [a3 1 (by omega), up_eq]
  have fr : ∀ p, p ≠ 1 → p ≠ 2 → F1 p = F p := fun p h1 h2 => by rw [a3 p h2, up_ne _ _ h1]
  have t10 : A1 10 = A 10 := a4 10 (by omega)
  have t11 : A1 11 = A 11 := a4 11 (by omega)
  have gd : ∀ X : Option (Option Value × dS), den mX5_takeStatement 145 [some (.ref 1), some (.int (nI kd)), some (.int (nI (vr b t e).2.1)), some (.int (nI (r2 b t kd e).2.1)), some (.int (nI (r3 b t kd e).2.1))] [] (mk Lx F1 A1 J) = X → dcall mX5_takeStatement [.ref 1] (mk Lx F A J) = X := fun X hX => by
    apply go
    unfold top at a1
    by_cases d0 : d = 0
    · rw [if_pos d0] at a1
      rw [d0] at hd
      simp (disch := omega) only [SX5_takeStatement_0, SX5_takeStatement_1, SX5_takeStatement_2, G1, Op isP_2, up_eq, f4, hd, a1, Option.bind_some, Option.bind_none, if_true, if_false, zr0, zr1, one11, one01, one0, one1, Option.toList_some, Option.toList_none, List.cons_append, List.nil_append, Nat.reduceEqDiff, Nat.reduceAdd, not_false_eq_true, not_true_eq_false, and_true, true_and, and_false, false_and, or_true, true_or, or_false, false_or, and_self, or_self, Bool.false_eq_true] at hX ⊢
      exact hX
    · rw [if_neg d0] at a1
      have o1 := ho (d - 1) (by omega)
      simp (disch := omega) only [SX5_takeStatement_0, SX5_takeStatement_1, SX5_takeStatement_2, G1, Op isP_2, up_eq, f4, hd, nI_e0, d0, nI_s, leN, a11, o1, a1, Option.bind_some, Option.bind_none, if_true, if_false, zr0, zr1, one11, one01, one0, one1, Option.toList_some, Option.toList_none, List.cons_append, List.nil_append, Nat.reduceEqDiff, Nat.reduceAdd, not_false_eq_true, not_true_eq_false, and_true, true_and, and_false, false_and, or_true, true_or, or_false, false_or, and_self, or_self, Bool.false_eq_true] at hX ⊢
      exact hX
  by_cases k5 : kd = 5
  · have n6 := hr.2 k5
    have e8 : F1 2 8 = nI (nif c n + 1) := by
      have := a2.2.1
      rw [ap_nif1] at this
      rw [this]
      congr 1
      show nif c n + (if kd = 5 then 1 else 0) = nif c n + 1
      rw [if_pos k5]
    rw [if_pos k5, if_pos k5]
    subst k5
    have ei : 2 * (nif c n + 1) - 1 = 2 * nif c n + 1 := by omega
    refine ⟨up F1 1 (up (F1 1) 4 (nI (d + 1))), up A1 11 (up (A1 11) d (nI (2 * nif c n + 1))), ?_, ⟨⟨hT.1, ?_, ?_⟩, ?_, ?_, fun i hi => ?_⟩, ?_, ?_, fun p h1 h2 => ?_, fun q h1 h2 => ?_⟩
    · apply gd
      simp (disch := omega) only [SX5_takeStatement_0, SX5_takeStatement_1, SX5_takeStatement_2, G1, P1, Gp isP_2, e1, f4, hd, e8, nI_m, nI_s, ei, w11, nI_add, up_eq, eq_self_iff_true, Option.bind_some, Option.bind_none, if_true, if_false, zr0, zr1, one11, one01, one0, one1, Option.toList_some, Option.toList_none, List.cons_append, List.nil_append, Nat.reduceEqDiff, Nat.reduceAdd, not_false_eq_true, not_true_eq_false, and_true, true_and, and_false, false_and, or_true, true_or, or_false, false_or, and_self, or_self, Bool.false_eq_true]
    · rw [up_eq, up_ne _ _ (by omega), e1, f3]; exact hT.2.1
    · rw [up_ne _ _ (by omega), t10]; exact hT.2.2
    · exact a2.fr (up_ne _ _ (by omega)) (fun d _ _ => up_ne _ _ (by omega))
    · rw [up_eq, up_eq]
    · rw [up_eq]
      by_cases z : i = d
      · rw [z, up_eq, up_eq]
      · rw [up_ne _ _ z, up_ne _ _ z, t11]; exact ho i (by omega)
    · rw [up_eq, up_ne _ _ (by omega), e1]; exact f7
    · rw [up_eq, up_ne _ _ (by omega), e1]; exact f8
    · rw [up_ne _ _ h1]; exact fr p h1 h2
    · rw [up_ne _ _ h2]; exact a4 q (by omega)
  · rw [if_neg k5, if_neg k5]
    refine ⟨F1, A1, ?_, ⟨⟨hT.1, ?_, ?_⟩, a2, ?_, fun i hi => ?_⟩, ?_, ?_, fr, fun q h1 h2 => a4 q (by omega)⟩
    · apply gd
      simp (disch := omega) only [SX5_takeStatement_0, SX5_takeStatement_1, SX5_takeStatement_2, nI_eq, k5, Option.bind_some, Option.bind_none, if_true, if_false, zr0, zr1, one11, one01, one0, one1, Option.toList_some, Option.toList_none, List.cons_append, List.nil_append, Nat.reduceEqDiff, Nat.reduceAdd, not_false_eq_true, not_true_eq_false, and_true, true_and, and_false, false_and, or_true, true_or, or_false, false_or, and_self, or_self, Bool.false_eq_true]
    · rw [e1, f3]; exact hT.2.1
    · rw [t10]; exact hT.2.2
    · rw [e1, f4]; exact hd
    · rw [t11]; exact ho i hi
    · rw [e1]; exact f7
    · rw [e1]; exact f8
theorem c_closeB (h : cx F A b t n c d o) {s k : Nat} (h5 : F 1 5 = nI k) (hk : k ≤ 125) (h6 : F 1 6 = nI s) (hb : ¬ (k = 125 ∧ 0 < d)) (hd6 : d ≤ 6) : dcall mX5_closeSide [.ref 1] (mk Lx F A J) = some (some (.int (nI 0)), mk Lx (up F 1 (up (up (F 1) 8 (nI 2)) 9 (nI s))) A J) := by
  have hd := h.2.2.1
  by_cases k5 : k = 125
  · have d0 : d = 0 := by omega
    rw [d0] at hd
    rw [k5] at h5
    simp (disch := omega) only [CX5_closeSide, SX5_closeSide_0, SX5_closeSide_1, G1, O1, h5, h6, hd, c_refuse, eq_self_iff_true, Option.bind_some, Option.bind_none, if_true, if_false, zr0, zr1, one11, one01, one0, one1, Option.toList_some, Option.toList_none, List.cons_append, List.nil_append, Nat.reduceEqDiff, Nat.reduceAdd, not_false_eq_true, not_true_eq_false, and_true, true_and, and_false, false_and, or_true, true_or, or_false, false_or, and_self, or_self, Bool.false_eq_true]
  · simp (disch := omega) only [CX5_closeSide, SX5_closeSide_0, SX5_closeSide_1, G1, O1, h5, h6, nI_eq, k5, c_refuse, Option.bind_some, Option.bind_none, if_true, if_false, zr0, zr1, one11, one01, one0, one1, Option.toList_some, Option.toList_none, List.cons_append, List.nil_append, Nat.reduceEqDiff, Nat.reduceAdd, not_false_eq_true, not_true_eq_false, and_true, true_and, and_false, false_and, or_true, true_or, or_false, false_or, and_self, or_self, Bool.false_eq_true]
theorem c_closeN (h : cx F A b t n c d o) (h5 : F 1 5 = nI 125) (hd0 : 0 < d) (hd6 : d ≤ 6) (hg : o (d - 1) ≤ 12) (ho : ¬ o (d - 1) % 2 = 1) : dcall mX5_closeSide [.ref 1] (mk Lx F A J) = some (some (.int (nI 1)), mk Lx (up F 1 (up (F 1) 4 (nI (d - 1)))) A J) := by
  obtain ⟨hT, hX, hd, hA⟩ := h
  have e0 : ¬ d = 0 := by omega
  have o1 := hA (d - 1) (by omega)
  have iy := c_isYes (g := o (d - 1)) (by omega) (mk Lx F A J)
  simp (disch := omega) only [CX5_closeSide, SX5_closeSide_0, SX5_closeSide_1, G1, O1, P1, h5, hd, nI_e0, e0, nI_s, leN, a11, o1, iy, bI_0, ho, eq_self_iff_true, Option.bind_some, Option.bind_none, if_true, if_false, zr0, zr1, one11, one01, one0, one1, Option.toList_some, Option.toList_none, List.cons_append, List.nil_append, Nat.reduceEqDiff, Nat.reduceAdd, not_false_eq_true, not_true_eq_false, and_true, true_and, and_false, false_and, or_true, true_or, or_false, false_or, and_self, or_self, Bool.false_eq_true]
theorem c_closeY (h : cx F A b t n c d o) {e : Nat} (he : e ≤ t) (h5 : F 1 5 = nI 125) (h7 : F 1 7 = nI e) (hd0 : 0 < d) (hd6 : d ≤ 6) (hg : o (d - 1) ≤ 12) (ho : o (d - 1) % 2 = 1) : ∃ f, dcall mX5_closeSide [.ref 1] (mk Lx F A J) = some (some (.int (zI (sg b t 123 e).1)), mk Lx (up F 1 f) (up A 11 (up (A 11) (d - 1) (nI (o (d - 1) + 1)))) J) ∧ tpo F f (sg b t 123 e) := by
  obtain ⟨hT, hX, hd, hA⟩ := h
  have e0 : ¬ d = 0 := by omega
  have o1 := hA (d - 1) (by omega)
  have iy := c_isYes (g := o (d - 1)) (by omega) (mk Lx F A J)
  obtain ⟨f, g1, g2⟩ := c_takeSign (Lx := Lx) (J := J) (F := F) (A := up A 11 (up (A 11) (d - 1) (nI (o (d - 1) + 1)))) (b := b) (t := t) ⟨hT.1, hT.2.1, by rw [up_ne _ _ (by omega)]; exact hT.2.2⟩ (x := 123) (by decide) he h7
  refine ⟨f, ?_, g2⟩
  cases hz : (sg b t 123 e).1 with
  | true =>
    rw [hz, zIt] at g1
    simp (disch := omega) only [CX5_closeSide, SX5_closeSide_0, SX5_closeSide_1, G1, O1, P1, h5, hd, nI_e0, e0, nI_s, leN, a11, w11, o1, iy, bI_0, ho, nI_add, g1, zIt, eq_self_iff_true, Option.bind_some, Option.bind_none, if_true, if_false, zr0, zr1, one11, one01, one0, one1, Option.toList_some, Option.toList_none, List.cons_append, List.nil_append, Nat.reduceEqDiff, Nat.reduceAdd, not_false_eq_true, not_true_eq_false, and_true, true_and, and_false, false_and, or_true, true_or, or_false, false_or, and_self, or_self, Bool.false_eq_true]
  | false =>
    rw [hz, zIf] at g1
    simp (disch := omega) only [CX5_closeSide, SX5_closeSide_0, SX5_closeSide_1, G1, O1, P1, h5, hd, nI_e0, e0, nI_s, leN, a11, w11, o1, iy, bI_0, ho, nI_add, g1, zIf, eq_self_iff_true, Option.bind_some, Option.bind_none, if_true, if_false, zr0, zr1, one11, one01, one0, one1, Option.toList_some, Option.toList_none, List.cons_append, List.nil_append, Nat.reduceEqDiff, Nat.reduceAdd, not_false_eq_true, not_true_eq_false, and_true, true_and, and_false, false_and, or_true, true_or, or_false, false_or, and_self, or_self, Bool.false_eq_true]
end ALL6
