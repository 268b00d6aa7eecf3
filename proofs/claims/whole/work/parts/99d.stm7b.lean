section STM7B
variable {Lx : Nat} {F A : Nat → Nat → Int32} {J : Nat → Nat → Int64} {b : Nat → Nat} {t n d : Nat} {c : Nat → Nat → Nat} {o : Nat → Nat}
theorem tpM.frA (h : tpM F A b t) (a : Nat → Int32) : tpM F (up A 60 a) b t := ⟨h.1, h.2.1, by rw [up_ne _ _ (by omega)]; exact h.2.2⟩
/-- kind, guard, target, second, third and sign -/
theorem c_st7a (h : cm F A b t n c d o) (hsv : SV n c d o) (hn6 : nif c n ≤ 6) {p kd : Nat} (hr : RT (F 56) b t p) (k1 : tK b t p = 1) (hkd : kn b (tS b t p) (tE b t p) = kd) (hk5 : kd ≤ 5) (hrm : n < 24 ∧ (kd = 5 → nif c n < 6)) : ∃ f a, GO f b t (stm b t kd (tE b t p)) ∧ fr6 (F 56) f ∧ a 120 = nI (n + 1) ∧ ((stm b t kd (tE b t p)).1 = true → ∀ w, w < 5 → a (5 * n + w) = nI (rowf kd (vr b t (tE b t p)).2.1 (r2 b t kd (tE b t p)).2.1 (r3 b t kd (tE b t p)).2.1 (top d o) w)) ∧ (∀ s, s ≠ 120 → s < 5 * n ∨ 5 * n + 5 ≤ s → a s = A 60 s) ∧ ∀ X : Option (Option Value × dS), den mX7_readStatement 225 [some (.ref 56), some (.int (nI kd)), some (.int (nI (5 * n)))] [] (mk Lx (up F 56 f) (up A 60 a) J) = X → dcall mX7_readStatement [.ref 56] (mk Lx F A J) = X := by
  obtain ⟨hT, hM, hw2, hz, h13, h14, ho⟩ := h
  have ht := hT.1
  have k7 : tK b t p ≠ 7 := by omega
  have hl := t_le (b := b) hr.1
  have kk := c_kindNow (Lx := Lx) (J := J) hT hr k7
  rw [hkd, if_pos ⟨k1, by omega⟩] at kk
  have n4 : ¬ nI kd = (-4) := nI_m4 (by omega)
  have g10 := (hr.2.2.2.1 k7).1
  have h24 := hrm.1
  have hd6 : d ≤ 6 := by have := hsv.1; omega
  -- the draft's row once kind and guard stand in it
  obtain ⟨f0, q1, q2⟩ := c_reads (Lx := Lx) (J := J) (hT.frA (up (up (up (A 60) 120 (nI (n + 1))) (5 * n) (nI kd)) (5 * n + 4) (nI (top d o)))) hl.2.2.1 g10 hr.2.1
  obtain ⟨rt0, fr0⟩ := q2.rt hl.2.2.1
  have f05 : f0 5 = nI t := by rw [fr0 5 (by omega) (by omega) (by omega) (by omega) (by omega) (by omega)]; exact hT.2.1
  have go0 : GO f0 b t (true, 0, tE b t p) := ⟨fun _ => rt0, (fun z => by cases z)⟩
  obtain ⟨f1, x1, v1, g1, fr1, y1⟩ := c_rv (Lx := Lx) (J := J) (F := F) (hT.frA (up (up (up (A 60) 120 (nI (n + 1))) (5 * n) (nI kd)) (5 * n + 4) (nI (top d o)))) f05 go0
  have fr01 := fr0.tr fr1
  have f15 : f1 5 = nI t := by rw [fr01 5 (by omega) (by omega) (by omega) (by omega) (by omega) (by omega)]; exact hT.2.1
  have e1 : bR (true, 0, tE b t p) (vr b t) = vr b t (tE b t p) := rfl
  rw [e1] at g1
  have y1 : (vr b t (tE b t p)).1 = true → x1 = nI (vr b t (tE b t p)).2.1 := y1 rfl
  have st : ∀ X : Option (Option Value × dS), den mX7_readStatement 151 [some (.ref 56), some (.int (nI kd)), some (.int (nI (5 * n)))] [] (mk Lx (up F 56 f1) (up A 60 (up (up (up (up (A 60) 120 (nI (n + 1))) (5 * n) (nI kd)) (5 * n + 4) (nI (top d o))) (5 * n + 1) x1)) J) = X → dcall mX7_readStatement [.ref 56] (mk Lx F A J) = X := fun X hX => by
    obtain ⟨r134, r135, r136, r139, r140, r143, r144, r145, r146, r147, r150, -⟩ := SX7_readStatement_2
    have g0' : ¬ 0 < nI 0 := by decide
    unfold top at hX q1 v1
    by_cases d0 : d = 0
    · rw [if_pos d0] at hX q1 v1
      rw [d0] at h13
      by_cases k5 : kd = 5
      · have l6 := hrm.2 k5
        subst k5
        simp (disch := omega) only [CX7_readStatement, SX7_readStatement_0, SX7_readStatement_1, r134, r135, r136, r139, r140, r143, r144, r145, r146, r147, r150, G56, O56, leN, kk, n4, c_reqY, a60, w60, hM.1, nI_ltI, h24, h14, l6, g10, g0', h13, nI_m, nI_add, Nat.add_zero, q1, v1, up_eq, up_ne, up_up, hX, eq_self_iff_true, Option.bind_some, Option.bind_none, if_true, if_false, zr0, zr1, one11, one01, one0, one1, Option.toList_some, Option.toList_none, List.cons_append, List.nil_append, Nat.reduceEqDiff, Nat.reduceAdd, not_false_eq_true, not_true_eq_false, and_true, true_and, and_false, false_and, or_true, true_or, or_false, false_or, and_self, or_self, Bool.false_eq_true]
      · simp (disch := omega) only [CX7_readStatement, SX7_readStatement_0, SX7_readStatement_1, r134, r135, r136, r139, r140, r143, r144, r145, r146, r147, r150, G56, O56, leN, kk, n4, c_reqY, a60, w60, hM.1, nI_ltI, h24, nI_eq, k5, g10, g0', h13, nI_m, nI_add, Nat.add_zero, q1, v1, up_eq, up_ne, up_up, hX, eq_self_iff_true, Option.bind_some, Option.bind_none, if_true, if_false, zr0, zr1, one11, one01, one0, one1, Option.toList_some, Option.toList_none, List.cons_append, List.nil_append, Nat.reduceEqDiff, Nat.reduceAdd, not_false_eq_true, not_true_eq_false, and_true, true_and, and_false, false_and, or_true, true_or, or_false, false_or, and_self, or_self, Bool.false_eq_true]
    · rw [if_neg d0] at hX q1 v1
      have o1 := ho (d - 1) (by omega)
      by_cases k5 : kd = 5
      · have l6 := hrm.2 k5
        subst k5
        simp (disch := omega) only [CX7_readStatement, SX7_readStatement_0, SX7_readStatement_1, r134, r135, r136, r139, r140, r143, r144, r145, r146, r147, r150, G56, O56, leN, kk, n4, c_reqY, a60, w60, a62, hM.1, nI_ltI, h24, h14, l6, g10, g0', h13, nI_e0, d0, nI_s, o1, nI_m, nI_add, Nat.add_zero, q1, v1, up_eq, up_ne, up_up, hX, eq_self_iff_true, Option.bind_some, Option.bind_none, if_true, if_false, zr0, zr1, one11, one01, one0, one1, Option.toList_some, Option.toList_none, List.cons_append, List.nil_append, Nat.reduceEqDiff, Nat.reduceAdd, not_false_eq_true, not_true_eq_false, and_true, true_and, and_false, false_and, or_true, true_or, or_false, false_or, and_self, or_self, Bool.false_eq_true]
      · simp (disch := omega) only [CX7_readStatement, SX7_readStatement_0, SX7_readStatement_1, r134, r135, r136, r139, r140, r143, r144, r145, r146, r147, r150, G56, O56, leN, kk, n4, c_reqY, a60, w60, a62, hM.1, nI_ltI, h24, nI_eq, k5, g10, g0', h13, nI_e0, d0, nI_s, o1, nI_m, nI_add, Nat.add_zero, q1, v1, up_eq, up_ne, up_up, hX, eq_self_iff_true, Option.bind_some, Option.bind_none, if_true, if_false, zr0, zr1, one11, one01, one0, one1, Option.toList_some, Option.toList_none, List.cons_append, List.nil_append, Nat.reduceEqDiff, Nat.reduceAdd, not_false_eq_true, not_true_eq_false, and_true, true_and, and_false, false_and, or_true, true_or, or_false, false_or, and_self, or_self, Bool.false_eq_true]
  obtain ⟨-, -, -, -, -, -, -, -, -, -, -, r151, r152, r155, r156, r157, r160, r161, r164, r165, r166, r167, r168, r169, r170, r173, r175, r178, r180, r183, r184, r187, r188, r191, r192, r193, r194, r195, r198, r199⟩ := SX7_readStatement_2
  obtain ⟨r200, r203, r204, r205, r206, r207, r210, r211, r212, r213, r214, r217, r218, r221, r222, -⟩ := SX7_readStatement_3
  by_cases k05 : kd = 0 ∨ kd = 5
  · obtain ⟨f2, x2, v2, g2, fr2, y2⟩ := c_rn (Lx := Lx) (J := J) (F := F) (hT.frA (up (up (up (up (A 60) 120 (nI (n + 1))) (5 * n) (nI kd)) (5 * n + 4) (nI (top d o))) (5 * n + 1) x1)) f15 (m := if kd = 0 then 99 else 10) (by split <;> decide) g1
    have fr02 := fr01.tr fr2
    have f25 : f2 5 = nI t := by rw [fr02 5 (by omega) (by omega) (by omega) (by omega) (by omega) (by omega)]; exact hT.2.1
    have es2 : nm b t (if kd = 0 then 99 else 10) = st2 b t kd := by
      funext q
      unfold st2
      by_cases k0 : kd = 0
      · rw [if_pos k0, if_pos k0]
      · have k5 : kd = 5 := by omega
        rw [if_neg k0, if_neg k0, if_pos k5]
    rw [es2] at g2 y2
    have g3 : GO f2 b t (bR (bR (vr b t (tE b t p)) (st2 b t kd)) (st3 b t kd)) := by
      unfold bR at g2 ⊢
      by_cases c1 : (if (vr b t (tE b t p)).1 = false then vr b t (tE b t p) else st2 b t kd (vr b t (tE b t p)).2.2).1 = false
      · rw [if_pos c1]; exact g2
      · rw [if_neg c1]
        have c1t : (if (vr b t (tE b t p)).1 = false then vr b t (tE b t p) else st2 b t kd (vr b t (tE b t p)).2.2).1 = true := by simpa using c1
        unfold st3
        rw [if_pos k05]
        exact ⟨fun _ => g2.1 c1t, (fun z => by cases z)⟩
    have hxy : ((if kd = 5 then 123 else 59) = 59 ∧ (if kd = 5 then 4 else 3) = 3) ∨ ((if kd = 5 then 123 else 59) = 123 ∧ (if kd = 5 then 4 else 3) = 4) := by
      by_cases k5 : kd = 5
      · rw [if_pos k5, if_pos k5]; exact Or.inr ⟨rfl, rfl⟩
      · rw [if_neg k5, if_neg k5]; exact Or.inl ⟨rfl, rfl⟩
    obtain ⟨f4, v4, g4, fr4⟩ := c_tk (Lx := Lx) (J := J) (F := F) (hT.frA (up (up (up (up (up (A 60) 120 (nI (n + 1))) (5 * n) (nI kd)) (5 * n + 4) (nI (top d o))) (5 * n + 1) x1) (5 * n + 2) x2)) f25 (x := if kd = 5 then 123 else 59) (y := if kd = 5 then 4 else 3) hxy g3
    rw [bR_stm] at g4
    refine ⟨f4, up (up (up (up (up (A 60) 120 (nI (n + 1))) (5 * n) (nI kd)) (5 * n + 4) (nI (top d o))) (5 * n + 1) x1) (5 * n + 2) x2, g4, fr02.tr fr4, ?_, fun hok w hw => ?_, fun s h1 h2 => ?_, fun X hX => st X ?_⟩
    · simp (disch := omega) only [up_eq, up_ne]
    · obtain ⟨o1, o2, o3, o4, o5, o6, o7, o8, o9, o10⟩ := stm_ok hl.2.2.1 hok
      have ex1 := y1 o1
      have ex2 : x2 = nI (r2 b t kd (tE b t p)).2.1 := y2 o1 o2
      have ex3 : (r3 b t kd (tE b t p)).2.1 = 0 := by unfold r3 st3; rw [if_pos k05]
      rw [ex1, ex2, ex3]
      obtain rfl | rfl | rfl | rfl | rfl : w = 0 ∨ w = 1 ∨ w = 2 ∨ w = 3 ∨ w = 4 := by omega
      · simp (disch := omega) only [Nat.add_zero, up_eq, up_ne]; rfl
      · simp (disch := omega) only [up_eq, up_ne]; rfl
      · simp (disch := omega) only [up_eq]; rfl
      · simp (disch := omega) only [up_ne]
        exact hz (5 * n + 3) (by omega) (by omega)
      · simp (disch := omega) only [up_eq, up_ne]; rfl
    · simp (disch := omega) only [up_ne]
    · rcases k05 with k0 | k5
      · subst k0
        simp only [if_pos, Nat.reduceEqDiff, if_true, if_false] at v2 v4
        have n5 : ¬ (0 : Nat) = 5 := by decide
        simp (disch := omega) only [r151, r152, r155, r156, r157, r160, r161, r164, r165, r166, r167, r168, r169, r170, r173, r175, r178, r180, r183, r184, r211, r212, r213, r214, r217, r218, r221, r222, G56, O56, w60, nI_eq, n5, nI_add, v2, v4, up_eq, up_up, hX, Option.bind_some, Option.bind_none, if_true, if_false, zr0, zr1, one11, one01, one0, one1, Option.toList_some, Option.toList_none, List.cons_append, List.nil_append, Nat.reduceEqDiff, Nat.reduceAdd, not_false_eq_true, not_true_eq_false, and_true, true_and, and_false, false_and, or_true, true_or, or_false, false_or, and_self, or_self, Bool.false_eq_true]
      · subst k5
        simp only [if_pos, Nat.reduceEqDiff, if_true, if_false] at v2 v4
        have n5 : ¬ (5 : Nat) = 0 := by decide
        simp (disch := omega) only [r151, r152, r155, r156, r157, r160, r161, r164, r165, r166, r167, r168, r169, r170, r173, r175, r178, r180, r183, r184, r211, r212, r213, r214, r217, r218, r221, r222, G56, O56, w60, nI_e0, n5, nI_add, v2, v4, up_eq, up_up, hX, eq_self_iff_true, Option.bind_some, Option.bind_none, if_true, if_false, zr0, zr1, one11, one01, one0, one1, Option.toList_some, Option.toList_none, List.cons_append, List.nil_append, Nat.reduceEqDiff, Nat.reduceAdd, not_false_eq_true, not_true_eq_false, and_true, true_and, and_false, false_and, or_true, true_or, or_false, false_or, and_self, or_self, Bool.false_eq_true]
  · have k0 : ¬ kd = 0 := fun z => k05 (Or.inl z)
    have k5 : ¬ kd = 5 := fun z => k05 (Or.inr z)
    have es2 : st2 b t kd = vr b t := by
      funext q
      unfold st2
      rw [if_neg k0, if_neg k5]
    have es3 : st3 b t kd = vr b t := by
      funext q
      unfold st3
      rw [if_neg k05]
    obtain ⟨f2, x2, v2, g2, fr2, y2⟩ := c_rv (Lx := Lx) (J := J) (F := F) (hT.frA (up (up (up (up (A 60) 120 (nI (n + 1))) (5 * n) (nI kd)) (5 * n + 4) (nI (top d o))) (5 * n + 1) x1)) f15 g1
    have fr02 := fr01.tr fr2
    have f25 : f2 5 = nI t := by rw [fr02 5 (by omega) (by omega) (by omega) (by omega) (by omega) (by omega)]; exact hT.2.1
    obtain ⟨f3, x3, v3, g3, fr3, y3⟩ := c_rv (Lx := Lx) (J := J) (F := F) (hT.frA (up (up (up (up (up (A 60) 120 (nI (n + 1))) (5 * n) (nI kd)) (5 * n + 4) (nI (top d o))) (5 * n + 1) x1) (5 * n + 2) x2)) f25 g2
    have fr03 := fr02.tr fr3
    have f35 : f3 5 = nI t := by rw [fr03 5 (by omega) (by omega) (by omega) (by omega) (by omega) (by omega)]; exact hT.2.1
    obtain ⟨f4, v4, g4, fr4⟩ := c_tk (Lx := Lx) (J := J) (F := F) (hT.frA (up (up (up (up (up (up (A 60) 120 (nI (n + 1))) (5 * n) (nI kd)) (5 * n + 4) (nI (top d o))) (5 * n + 1) x1) (5 * n + 2) x2) (5 * n + 3) x3)) f35 (x := 59) (y := 3) (Or.inl ⟨rfl, rfl⟩) g3
    have es4 : (sg b t 59) = sg b t (if kd = 5 then 123 else 59) := by rw [if_neg k5]
    have g4' : GO f4 b t (stm b t kd (tE b t p)) := by
      rw [← bR_stm, es2, es3, ← es4]
      exact g4
    refine ⟨f4, up (up (up (up (up (up (A 60) 120 (nI (n + 1))) (5 * n) (nI kd)) (5 * n + 4) (nI (top d o))) (5 * n + 1) x1) (5 * n + 2) x2) (5 * n + 3) x3, g4', fr03.tr fr4, ?_, fun hok w hw => ?_, fun s h1 h2 => ?_, fun X hX => st X ?_⟩
    · simp (disch := omega) only [up_eq, up_ne]
    · obtain ⟨o1, o2, o3, o4, o5, o6, o7, o8, o9, o10⟩ := stm_ok hl.2.2.1 hok
      have ex1 := y1 o1
      have a2 : r2 b t kd (tE b t p) = vr b t (vr b t (tE b t p)).2.2 := by unfold r2; rw [es2]
      have a3 : r3 b t kd (tE b t p) = vr b t (r2 b t kd (tE b t p)).2.2 := by unfold r3; rw [es3]
      have ex2 : x2 = nI (r2 b t kd (tE b t p)).2.1 := by
        rw [a2] at o2 ⊢
        exact y2 o1 o2
      have eb : bR (vr b t (tE b t p)) (vr b t) = r2 b t kd (tE b t p) := by
        unfold bR
        rw [if_neg (by rw [o1]; decide), a2]
      rw [eb] at y3
      have ex3 : x3 = nI (r3 b t kd (tE b t p)).2.1 := by
        rw [a3] at o3 ⊢
        exact y3 o2 o3
      rw [ex1, ex2, ex3]
      obtain rfl | rfl | rfl | rfl | rfl : w = 0 ∨ w = 1 ∨ w = 2 ∨ w = 3 ∨ w = 4 := by omega
      · simp (disch := omega) only [Nat.add_zero, up_eq, up_ne]; rfl
      · simp (disch := omega) only [up_eq, up_ne]; rfl
      · simp (disch := omega) only [up_eq, up_ne]; rfl
      · simp (disch := omega) only [up_eq]; rfl
      · simp (disch := omega) only [up_eq, up_ne]; rfl
    · simp (disch := omega) only [up_ne]
    · simp (disch := omega) only [r151, r152, r155, r156, r157, r187, r188, r191, r192, r193, r194, r195, r198, r199, r200, r203, r204, r205, r206, r207, r210, r211, r212, r213, r214, r221, r222, G56, O56, w60, nI_e0, nI_eq, k0, k5, nI_add, v2, v3, v4, up_eq, up_up, hX, Option.bind_some, Option.bind_none, if_true, if_false, zr0, zr1, one11, one01, one0, one1, Option.toList_some, Option.toList_none, List.cons_append, List.nil_append, Nat.reduceEqDiff, Nat.reduceAdd, not_false_eq_true, not_true_eq_false, and_true, true_and, and_false, false_and, or_true, true_or, or_false, false_or, and_self, or_self, Bool.false_eq_true]
end STM7B
