section STM7C
variable {Lx : Nat} {F A : Nat → Nat → Int32} {J : Nat → Nat → Int64} {b : Nat → Nat} {t n d : Nat} {c : Nat → Nat → Nat} {o : Nat → Nat}
/-- what reading a text leaves alone -/
def frM (F A F' A' : Nat → Nat → Int32) : Prop := (∀ q, q ≠ 56 → F' q = F q) ∧ (∀ q, q < 6 ∨ 14 < q ∨ q = 12 → F' 56 q = F 56 q) ∧ ∀ q, q ≠ 60 → q ≠ 62 → A' q = A q
theorem frM.tr {F1 A1 F2 A2 : Nat → Nat → Int32} (h1 : frM F A F1 A1) (h2 : frM F1 A1 F2 A2) : frM F A F2 A2 := ⟨fun q hq => (h2.1 q hq).trans (h1.1 q hq), fun q hq => (h2.2.1 q hq).trans (h1.2.1 q hq), fun q a1 a2 => (h2.2.2 q a1 a2).trans (h1.2.2 q a1 a2)⟩
theorem c_st7 (h : cm F A b t n c d o) (hsv : SV n c d o) (hn6 : nif c n ≤ 6) {p kd : Nat} (hr : RT (F 56) b t p) (k1 : tK b t p = 1) (hkd : kn b (tS b t p) (tE b t p) = kd) (hk5 : kd ≤ 5) (hrm : n < 24 ∧ (kd = 5 → nif c n < 6)) : ∃ F' A', dcall mX7_readStatement [.ref 56] (mk Lx F A J) = some (none, mk Lx F' A' J) ∧ frM F A F' A' ∧ ((stm b t kd (tE b t p)).1 = false → FT (F' 56) (stm b t kd (tE b t p)).2.1 (stm b t kd (tE b t p)).2.2) ∧ ((stm b t kd (tE b t p)).1 = true → RT (F' 56) b t (stm b t kd (tE b t p)).2.2 ∧ (tK b t (stm b t kd (tE b t p)).2.2 ≠ 7 → cm F' A' b t (n + 1) (up c n (rowf kd (vr b t (tE b t p)).2.1 (r2 b t kd (tE b t p)).2.1 (r3 b t kd (tE b t p)).2.1 (top d o))) (if kd = 5 then d + 1 else d) (if kd = 5 then up o d (2 * nif c n + 1) else o))) := by
  obtain ⟨f, a, go, fr, a120, arow, arest, run⟩ := c_st7a (Lx := Lx) (J := J) h hsv hn6 hr k1 hkd hk5 hrm
  obtain ⟨hT, hM, hw2, hz, h13, h14, ho⟩ := h
  have h24 := hrm.1
  have fr1 : frM F A (up F 56 f) (up A 60 a) := ⟨fun q hq => up_ne _ _ hq, fun q hq => by rw [up_eq]; exact fr q (by omega) (by omega) (by omega) (by omega) (by omega) (by omega), fun q a1 _ => up_ne _ _ a1⟩
  have f13 : f 13 = nI d := by rw [fr 13 (by omega) (by omega) (by omega) (by omega) (by omega) (by omega)]; exact h13
  have f14 : f 14 = nI (nif c n) := by rw [fr 14 (by omega) (by omega) (by omega) (by omega) (by omega) (by omega)]; exact h14
  have f5 : f 5 = nI t := by rw [fr 5 (by omega) (by omega) (by omega) (by omega) (by omega) (by omega)]; exact hT.2.1
  by_cases sf : (stm b t kd (tE b t p)).1 = false
  · obtain ⟨e0, e9, e10, e11, e7⟩ := go.2 sf
    have ne : ¬ (stm b t kd (tE b t p)).2.1 = 0 := by omega
    refine ⟨up F 56 f, up A 60 a, run _ ?_, fr1, fun _ => by rw [up_eq]; exact go.2 sf, fun z => absurd (z.symm.trans sf) (by decide)⟩
    simp (disch := omega) only [SX7_readStatement_3, SX7_readStatement_4, G56, up_eq, e10, nI_e0, ne, Option.bind_some, Option.bind_none, if_true, if_false, zr0, zr1, one11, one01, one0, one1, Option.toList_some, Option.toList_none, List.cons_append, List.nil_append, Nat.reduceEqDiff, Nat.reduceAdd, not_false_eq_true, not_true_eq_false, and_true, true_and, and_false, false_and, or_true, true_or, or_false, false_or, and_self, or_self, Bool.false_eq_true]
  · have st : (stm b t kd (tE b t p)).1 = true := by simpa using sf
    have rt := go.1 st
    by_cases k7 : tK b t (stm b t kd (tE b t p)).2.2 = 7
    · have f10 := (rt.2.2.2.2.2 k7).1
      have one : ¬ nI 1 = 0 := by decide
      refine ⟨up F 56 f, up A 60 a, run _ ?_, fr1, fun z => absurd (st.symm.trans z) (by decide), fun _ => ⟨by rw [up_eq]; exact rt, fun z => absurd k7 z⟩⟩
      simp (disch := omega) only [SX7_readStatement_3, SX7_readStatement_4, G56, up_eq, f10, one, Option.bind_some, Option.bind_none, if_true, if_false, zr0, zr1, one11, one01, one0, one1, Option.toList_some, Option.toList_none, List.cons_append, List.nil_append, Nat.reduceEqDiff, Nat.reduceAdd, not_false_eq_true, not_true_eq_false, and_true, true_and, and_false, false_and, or_true, true_or, or_false, false_or, and_self, or_self, Bool.false_eq_true]
    · have f10 := (rt.2.2.2.1 k7).1
      have row := arow st
      have r0 : rowf kd (vr b t (tE b t p)).2.1 (r2 b t kd (tE b t p)).2.1 (r3 b t kd (tE b t p)).2.1 (top d o) 0 = kd := rfl
      have en := ap_nif1 (c := c) (n := n) (rowf kd (vr b t (tE b t p)).2.1 (r2 b t kd (tE b t p)).2.1 (r3 b t kd (tE b t p)).2.1 (top d o))
      rw [r0] at en
      have n6' : nif c n + (if kd = 5 then 1 else 0) ≤ 6 := by
        by_cases k5 : kd = 5
        · rw [if_pos k5]; have := hrm.2 k5; omega
        · rw [if_neg k5]; omega
      have m0 : M0 a (n + 1) (up c n (rowf kd (vr b t (tE b t p)).2.1 (r2 b t kd (tE b t p)).2.1 (r3 b t kd (tE b t p)).2.1 (top d o))) (fun _ => 2) 255 := by
        refine ⟨a120, (arest 121 (by omega) (by omega)).trans hM.2.1, fun i hi w hw => ?_, fun j hj => ?_⟩
        · by_cases z : i = n
          · rw [z, up_eq]; exact row w hw
          · rw [up_ne _ _ z, arest _ (by omega) (by omega)]; exact hM.2.2.1 i (by omega) w hw
        · rw [arest _ (by omega) (by omega)]; exact hw2 j (by omega)
      have w2 : ∀ j, j < 6 → a (122 + j) = nI 2 := fun j hj => by rw [arest _ (by omega) (by omega)]; exact hw2 j hj
      have zz : ∀ s, 5 * (n + 1) ≤ s → s < 120 → a s = nI 0 := fun s h1 h2 => by rw [arest _ (by omega) (by omega)]; exact hz s (by omega) h2
      by_cases k5 : kd = 5
      · have l6 := hrm.2 k5
        have hd6 : d < 6 := by have := hsv.1; omega
        refine ⟨up F 56 (up (up f 13 (nI (d + 1))) 14 (nI (nif c n + 1))), up (up A 60 a) 62 (up (A 62) d (nI (2 * nif c n + 1))), run _ ?_, ⟨fun q hq => up_ne _ _ hq, fun q hq => by rw [up_eq, up_ne _ _ (by omega), up_ne _ _ (by omega)]; exact fr q (by omega) (by omega) (by omega) (by omega) (by omega) (by omega), fun q a1 a2 => by rw [up_ne _ _ a2, up_ne _ _ a1]⟩, fun z => absurd (st.symm.trans z) (by decide), fun _ => ⟨?_, fun _ => ⟨⟨hT.1, ?_, ?_⟩, ?_, ?_, ?_, ?_, ?_, fun i hi => ?_⟩⟩⟩
        · subst k5
          simp (disch := omega) only [SX7_readStatement_3, SX7_readStatement_4, G56, P56, up_eq, up_ne, up_up, f10, f13, f14, nI_m, nI_add, w62, eq_self_iff_true, Option.bind_some, Option.bind_none, if_true, if_false, zr0, zr1, one11, one01, one0, one1, Option.toList_some, Option.toList_none, List.cons_append, List.nil_append, Nat.reduceEqDiff, Nat.reduceAdd, not_false_eq_true, not_true_eq_false, and_true, true_and, and_false, false_and, or_true, true_or, or_false, false_or, and_self, or_self, Bool.false_eq_true]
        · rw [up_eq]
          unfold RT at rt ⊢
          simp (disch := omega) only [up_ne]
          exact rt
        · rw [up_eq, up_ne _ _ (by omega), up_ne _ _ (by omega)]; exact f5
        · rw [up_ne _ _ (by omega), up_ne _ _ (by omega)]; exact hT.2.2
        · rw [up_ne _ _ (by omega), up_eq]; exact m0
        · rw [up_ne _ _ (by omega), up_eq]; exact w2
        · rw [up_ne _ _ (by omega), up_eq]; exact zz
        · rw [if_pos k5, up_eq, up_ne _ _ (by omega), up_eq]
        · rw [up_eq, up_eq, en, if_pos k5]
        · rw [if_pos k5] at hi ⊢
          rw [up_eq]
          by_cases z : i = d
          · rw [z, up_eq, up_eq]
          · rw [up_ne _ _ z, up_ne _ _ z]; exact ho i (by omega)
      · refine ⟨up F 56 f, up A 60 a, run _ ?_, fr1, fun z => absurd (st.symm.trans z) (by decide), fun _ => ⟨by rw [up_eq]; exact rt, fun _ => ⟨⟨hT.1, by rw [up_eq]; exact f5, by rw [up_ne _ _ (by omega)]; exact hT.2.2⟩, by rw [up_eq]; exact m0, by rw [up_eq]; exact w2, by rw [up_eq]; exact zz, ?_, ?_, ?_⟩⟩⟩
        · simp (disch := omega) only [SX7_readStatement_3, SX7_readStatement_4, G56, up_eq, f10, nI_eq, k5, Option.bind_some, Option.bind_none, if_true, if_false, zr0, zr1, one11, one01, one0, one1, Option.toList_some, Option.toList_none, List.cons_append, List.nil_append, Nat.reduceEqDiff, Nat.reduceAdd, not_false_eq_true, not_true_eq_false, and_true, true_and, and_false, false_and, or_true, true_or, or_false, false_or, and_self, or_self, Bool.false_eq_true]
        · rw [if_neg k5, up_eq]; exact f13
        · rw [up_eq, en, if_neg k5]; exact f14
        · rw [if_neg k5, if_neg k5, up_ne _ _ (by omega)]; exact ho
theorem c_sideN (h : cm F A b t n c d o) {p : Nat} (hr : RT (F 56) b t p) (k5 : tK b t p = 125) (hd0 : 0 < d) (hd6 : d ≤ 6) (hg : o (d - 1) ≤ 12) (od : ¬ o (d - 1) % 2 = 1) : ∃ F' A', dcall mX7_sideEnds [.ref 56] (mk Lx F A J) = some (none, mk Lx F' A' J) ∧ frM F A F' A' ∧ RT (F' 56) b t (tE b t p) ∧ cm F' A' b t n c (d - 1) o := by
  obtain ⟨hT, hM, hw2, hz, h13, h14, ho⟩ := h
  have hl := t_le (b := b) hr.1
  have g10 := (hr.2.2.2.1 (by omega)).1
  obtain ⟨f, q1, q2⟩ := c_reads (Lx := Lx) (J := J) hT hl.2.2.1 g10 hr.2.1
  obtain ⟨rt, fr⟩ := q2.rt hl.2.2.1
  have f13 : f 13 = nI d := by rw [fr 13 (by omega) (by omega) (by omega) (by omega) (by omega) (by omega)]; exact h13
  have o1 := ho (d - 1) (by omega)
  have hrem : nI (o (d - 1)) - nI (o (d - 1) / 2) * nI 2 = nI (o (d - 1) % 2) := by
    rw [nI_m, nI_s (by omega)]
    congr 1
    omega
  refine ⟨up F 56 (up f 13 (nI (d - 1))), A, ?_, ⟨fun q hq => up_ne _ _ hq, fun q hq => by rw [up_eq, up_ne _ _ (by omega)]; exact fr q (by omega) (by omega) (by omega) (by omega) (by omega) (by omega), fun _ _ _ => rfl⟩, ?_, ⟨⟨hT.1, ?_, hT.2.2⟩, hM, hw2, hz, ?_, ?_, fun i hi => ho i (by omega)⟩⟩
  · simp (disch := omega) only [CX7_sideEnds, SX7_sideEnds, G56, O56, P56, leN, q1, up_eq, up_up, f13, nI_s, a62, o1, two0, nI_d, hrem, nI_eq, od, Option.bind_some, Option.bind_none, if_true, if_false, zr0, zr1, one11, one01, one0, one1, Option.toList_some, Option.toList_none, List.cons_append, List.nil_append, Nat.reduceEqDiff, Nat.reduceAdd, not_false_eq_true, not_true_eq_false, and_true, true_and, and_false, false_and, or_true, true_or, or_false, false_or, and_self, or_self, Bool.false_eq_true]
  · rw [up_eq]
    unfold RT at rt ⊢
    simp (disch := omega) only [up_ne]
    exact rt
  · rw [up_eq, up_ne _ _ (by omega), fr 5 (by omega) (by omega) (by omega) (by omega) (by omega) (by omega)]; exact hT.2.1
  · rw [up_eq, up_eq]
  · rw [up_eq, up_ne _ _ (by omega), fr 14 (by omega) (by omega) (by omega) (by omega) (by omega) (by omega)]; exact h14
theorem c_sideY (h : cm F A b t n c d o) {p : Nat} (hr : RT (F 56) b t p) (k5 : tK b t p = 125) (hd0 : 0 < d) (hd6 : d ≤ 6) (hg : o (d - 1) ≤ 12) (od : o (d - 1) % 2 = 1) : ∃ F' A', dcall mX7_sideEnds [.ref 56] (mk Lx F A J) = some (none, mk Lx F' A' J) ∧ frM F A F' A' ∧ GO (F' 56) b t (sg b t 123 (tE b t p)) ∧ cm F' A' b t n c d (up o (d - 1) (o (d - 1) + 1)) := by
  obtain ⟨hT, hM, hw2, hz, h13, h14, ho⟩ := h
  have hl := t_le (b := b) hr.1
  have g10 := (hr.2.2.2.1 (by omega)).1
  obtain ⟨f, q1, q2⟩ := c_reads (Lx := Lx) (J := J) hT hl.2.2.1 g10 hr.2.1
  obtain ⟨rt, fr⟩ := q2.rt hl.2.2.1
  have f13 : f 13 = nI d := by rw [fr 13 (by omega) (by omega) (by omega) (by omega) (by omega) (by omega)]; exact h13
  have f5 : f 5 = nI t := by rw [fr 5 (by omega) (by omega) (by omega) (by omega) (by omega) (by omega)]; exact hT.2.1
  obtain ⟨f2, v2, g2, fr2⟩ := c_tk (Lx := Lx) (J := J) (F := F) hT f5 (x := 123) (y := 4) (Or.inr ⟨rfl, rfl⟩) (R := (true, 0, tE b t p)) ⟨fun _ => rt, (fun z => by cases z)⟩
  have e1 : bR (true, 0, tE b t p) (sg b t 123) = sg b t 123 (tE b t p) := rfl
  rw [e1] at g2
  have fr02 := fr.tr fr2
  have f213 : f2 13 = nI d := by rw [fr02 13 (by omega) (by omega) (by omega) (by omega) (by omega) (by omega)]; exact h13
  have o1 := ho (d - 1) (by omega)
  have hrem : nI (o (d - 1)) - nI (o (d - 1) / 2) * nI 2 = nI (o (d - 1) % 2) := by
    rw [nI_m, nI_s (by omega)]
    congr 1
    omega
  rw [od] at hrem
  refine ⟨up F 56 f2, up A 62 (up (A 62) (d - 1) (nI (o (d - 1) + 1))), ?_, ⟨fun q hq => up_ne _ _ hq, fun q hq => by rw [up_eq]; exact fr02 q (by omega) (by omega) (by omega) (by omega) (by omega) (by omega), fun q _ a2 => up_ne _ _ a2⟩, by rw [up_eq]; exact g2, ⟨⟨hT.1, ?_, by rw [up_ne _ _ (by omega)]; exact hT.2.2⟩, by rw [up_ne _ _ (by omega)]; exact hM, by rw [up_ne _ _ (by omega)]; exact hw2, by rw [up_ne _ _ (by omega)]; exact hz, ?_, ?_, fun i hi => ?_⟩⟩
  · simp (disch := omega) only [CX7_sideEnds, SX7_sideEnds, G56, O56, P56, leN, q1, up_eq, up_up, f13, f213, nI_s, a62, w62, o1, two0, nI_d, hrem, v2, nI_add, eq_self_iff_true, Option.bind_some, Option.bind_none, if_true, if_false, zr0, zr1, one11, one01, one0, one1, Option.toList_some, Option.toList_none, List.cons_append, List.nil_append, Nat.reduceEqDiff, Nat.reduceAdd, not_false_eq_true, not_true_eq_false, and_true, true_and, and_false, false_and, or_true, true_or, or_false, false_or, and_self, or_self, Bool.false_eq_true]
  · rw [up_eq, fr02 5 (by omega) (by omega) (by omega) (by omega) (by omega) (by omega)]; exact hT.2.1
  · rw [up_eq]; exact f213
  · rw [up_eq, fr02 14 (by omega) (by omega) (by omega) (by omega) (by omega) (by omega)]; exact h14
  · rw [up_eq]
    by_cases z : i = d - 1
    · rw [z, up_eq, up_eq]
    · rw [up_ne _ _ z, up_ne _ _ z]; exact ho i hi
end STM7C
