section STM6
variable {Lx : Nat} {F A : Nat → Nat → Int32} {J : Nat → Nat → Int64} {b : Nat → Nat} {t n d : Nat} {c : Nat → Nat → Nat} {o : Nat → Nat}
/-- the class while it reads -/
def cx (F A : Nat → Nat → Int32) (b : Nat → Nat) (t n : Nat) (c : Nat → Nat → Nat) (d : Nat) (o : Nat → Nat) : Prop := tpX F A b t ∧ XP F A 2 n c (fun _ => 2) 255 ∧ F 1 4 = nI d ∧ ∀ i, i < d → A 11 i = nI (o i)
theorem tpX.fr (h : tpX F A b t) {f : Nat → Int32} (h3 : f 3 = F 1 3) : tpX (up F 1 f) A b t := ⟨h.1, by rw [up_eq, h3]; exact h.2.1, h.2.2⟩
theorem c_takeSecond (h : tpX F A b t) {p kd : Nat} (hk : kd ≤ 5) (hp : p ≤ t) (h7 : F 1 7 = nI p) : ∃ f, dcall mX5_takeSecond [.ref 1, .int (nI kd)] (mk Lx F A J) = some (some (.int (if (st2 b t kd p).1 = true then nI (st2 b t kd p).2.1 else (-4))), mk Lx (up F 1 f) A J) ∧ tpo F f (st2 b t kd p) := by
  unfold st2
  by_cases k0 : kd = 0
  · rw [if_pos k0]
    obtain ⟨f, g1, g2⟩ := c_takeNumber (Lx := Lx) (J := J) h (m := 99) (by decide) hp h7
    refine ⟨f, ?_, g2⟩
    simp (disch := omega) only [CX5_takeSecond, SX5_takeSecond, O1, nI_e0, k0, g1, Option.bind_some, Option.bind_none, if_true, if_false, zr0, zr1, one11, one01, one0, one1, Option.toList_some, Option.toList_none, List.cons_append, List.nil_append, Nat.reduceEqDiff, Nat.reduceAdd, not_false_eq_true, not_true_eq_false, and_true, true_and, and_false, false_and, or_true, true_or, or_false, false_or, and_self, or_self, Bool.false_eq_true]
  · rw [if_neg k0]
    by_cases k5 : kd = 5
    · rw [if_pos k5]
      obtain ⟨f, g1, g2⟩ := c_takeNumber (Lx := Lx) (J := J) h (m := 10) (by decide) hp h7
      refine ⟨f, ?_, g2⟩
      simp (disch := omega) only [CX5_takeSecond, SX5_takeSecond, O1, nI_e0, nI_eq, k0, k5, g1, Option.bind_some, Option.bind_none, if_true, if_false, zr0, zr1, one11, one01, one0, one1, Option.toList_some, Option.toList_none, List.cons_append, List.nil_append, Nat.reduceEqDiff, Nat.reduceAdd, not_false_eq_true, not_true_eq_false, and_true, true_and, and_false, false_and, or_true, true_or, or_false, false_or, and_self, or_self, Bool.false_eq_true]
    · rw [if_neg k5]
      obtain ⟨f, g1, g2⟩ := c_takeVariable (Lx := Lx) (J := J) h hp h7
      refine ⟨f, ?_, g2⟩
      simp (disch := omega) only [CX5_takeSecond, SX5_takeSecond, O1, nI_e0, nI_eq, k0, k5, g1, Option.bind_some, Option.bind_none, if_true, if_false, zr0, zr1, one11, one01, one0, one1, Option.toList_some, Option.toList_none, List.cons_append, List.nil_append, Nat.reduceEqDiff, Nat.reduceAdd, not_false_eq_true, not_true_eq_false, and_true, true_and, and_false, false_and, or_true, true_or, or_false, false_or, and_self, or_self, Bool.false_eq_true]
theorem m44 : ((-4 : Int32) = (-4)) ↔ True := by decide
theorem c_stmB1 (h : tpX F A b t) {s e : Nat} (hs : s ≤ e) (he : e ≤ t) (h6 : F 1 6 = nI s) (h7 : F 1 7 = nI e) (hk : kn b s e = 6) : dcall mX5_takeStatement [.ref 1] (mk Lx F A J) = some (some (.int (nI 0)), mk Lx (up F 1 (up (up (F 1) 8 (nI 2)) 9 (nI s))) A J) := by
  have kk := c_kindOfName (Lx := Lx) (J := J) h h6 h7 hs he
  rw [if_pos hk] at kk
  simp (disch := omega) only [CX5_takeStatement, SX5_takeStatement_0, SX5_takeStatement_1, SX5_takeStatement_2, O1, kk, m44, c_refuse, h6, Option.bind_some, Option.bind_none, if_true, if_false, zr0, zr1, one11, one01, one0, one1, Option.toList_some, Option.toList_none, List.cons_append, List.nil_append, Nat.reduceEqDiff, Nat.reduceAdd, not_false_eq_true, not_true_eq_false, and_true, true_and, and_false, false_and, or_true, true_or, or_false, false_or, and_self, or_self, Bool.false_eq_true]
theorem c_stmB2 (h : cx F A b t n c d o) (hv : PV n c (fun _ => 2) 255) {s e kd : Nat} (hs : s ≤ e) (he : e ≤ t) (h6 : F 1 6 = nI s) (h7 : F 1 7 = nI e) (hk : kn b s e = kd) (hk5 : kd ≤ 5) (hr : ¬ (n < 24 ∧ (kd = 5 → nif c n < 6))) : dcall mX5_takeStatement [.ref 1] (mk Lx F A J) = some (some (.int (nI 0)), mk Lx (up F 1 (up (up (F 1) 8 (nI 5)) 9 (nI s))) A J) := by
  have kk := c_kindOfName (Lx := Lx) (J := J) h.1 h6 h7 hs he
  rw [hk, if_neg (by omega)] at kk
  have ro := c_room (Lx := Lx) (J := J) isP_2 h.2.1 (kd := kd) hv.1 hv.2.1 hk5
  rw [if_neg hr] at ro
  have n4 : ¬ nI kd = (-4) := nI_m4 (by omega)
  simp (disch := omega) only [CX5_takeStatement, SX5_takeStatement_0, SX5_takeStatement_1, SX5_takeStatement_2, G1, O1, Op isP_2, kk, n4, ro, c_refuse, h6, Option.bind_some, Option.bind_none, if_true, if_false, zr0, zr1, one11, one01, one0, one1, Option.toList_some, Option.toList_none, List.cons_append, List.nil_append, Nat.reduceEqDiff, Nat.reduceAdd, not_false_eq_true, not_true_eq_false, and_true, true_and, and_false, false_and, or_true, true_or, or_false, false_or, and_self, or_self, Bool.false_eq_true]
/-- target, second, third and sign taken one after another -/
theorem c_stm4 (h : cx F A b t n c d o) (hv : PV n c (fun _ => 2) 255) {s e kd : Nat} (hs : s ≤ e) (he : e ≤ t) (h6 : F 1 6 = nI s) (h7 : F 1 7 = nI e) (hk : kn b s e = kd) (hk5 : kd ≤ 5) (hr : n < 24 ∧ (kd = 5 → nif c n < 6)) : ∃ f, f 3 = F 1 3 ∧ f 4 = F 1 4 ∧ ((stm b t kd e).1 = false → f 8 = nI (stm b t kd e).2.1 ∧ f 9 = nI (stm b t kd e).2.2 ∧ dcall mX5_takeStatement [.ref 1] (mk Lx F A J) = some (some (.int (nI 0)), mk Lx (up F 1 f) A J)) ∧ ((stm b t kd e).1 = true → f 7 = nI (stm b t kd e).2.2 ∧ f 8 = F 1 8 ∧ ∀ X : Option (Option Value × dS), den mX5_takeStatement 111 [some (.ref 1), some (.int (nI kd)), some (.int (nI (vr b t e).2.1)), some (.int (nI (r2 b t kd e).2.1)), some (.int (nI (r3 b t kd e).2.1))] [] (mk Lx (up F 1 f) A J) = X → dcall mX5_takeStatement [.ref 1] (mk Lx F A J) = X) := by
  have kk := c_kindOfName (Lx := Lx) (J := J) h.1 h6 h7 hs he
  rw [hk, if_neg (by omega)] at kk
  have ro := c_room (Lx := Lx) (J := J) isP_2 h.2.1 (kd := kd) hv.1 hv.2.1 hk5
  rw [if_pos hr] at ro
  have n4 : ¬ nI kd = (-4) := nI_m4 (by omega)
  obtain ⟨f1, g1, t13, t14, t1t, t1f⟩ := c_takeVariable (Lx := Lx) (J := J) h.1 he h7
  unfold stm
  by_cases c1 : (vr b t e).1 = false
  · rw [if_pos c1]
    rw [if_neg (by rw [c1]; decide)] at g1
    refine ⟨f1, t13, t14, fun _ => ⟨(t1f c1).1, (t1f c1).2, ?_⟩, fun z => absurd (z.symm.trans c1) (by decide)⟩
    simp (disch := omega) only [CX5_takeStatement, SX5_takeStatement_0, SX5_takeStatement_1, SX5_takeStatement_2, G1, O1, Op isP_2, kk, n4, ro, g1, m44, Option.bind_some, Option.bind_none, if_true, if_false, zr0, zr1, one11, one01, one0, one1, Option.toList_some, Option.toList_none, List.cons_append, List.nil_append, Nat.reduceEqDiff, Nat.reduceAdd, not_false_eq_true, not_true_eq_false, and_true, true_and, and_false, false_and, or_true, true_or, or_false, false_or, and_self, or_self, Bool.false_eq_true]
  · have c1t : (vr b t e).1 = true := by simpa using c1
    rw [if_neg c1]
    rw [if_pos c1t] at g1
    have o1 := vr_ok he c1t
    obtain ⟨a17, a18⟩ := t1t c1t
    have h1 := h.1.fr t13
    have n41 : ¬ nI (vr b t e).2.1 = (-4) := nI_m4 (by omega)
    obtain ⟨f2, g2, t23, t24, t2t, t2f⟩ := c_takeSecond (Lx := Lx) (J := J) h1 hk5 o1.2.1 (by rw [up_eq]; exact a17)
    rw [up_up] at g2
    rw [up_eq] at t23 t24 t2t
    have e2 : st2 b t kd (vr b t e).2.2 = r2 b t kd e := rfl
    rw [e2] at g2 t2t t2f
    by_cases c2 : (r2 b t kd e).1 = false
    · rw [if_pos c2]
      rw [if_neg (by rw [c2]; decide)] at g2
      refine ⟨f2, t23.trans t13, t24.trans t14, fun _ => ⟨(t2f c2).1, (t2f c2).2, ?_⟩, fun z => absurd (z.symm.trans c2) (by decide)⟩
      simp (disch := omega) only [CX5_takeStatement, SX5_takeStatement_0, SX5_takeStatement_1, SX5_takeStatement_2, G1, O1, Op isP_2, kk, n4, ro, g1, n41, g2, m44, Option.bind_some, Option.bind_none, if_true, if_false, zr0, zr1, one11, one01, one0, one1, Option.toList_some, Option.toList_none, List.cons_append, List.nil_append, Nat.reduceEqDiff, Nat.reduceAdd, not_false_eq_true, not_true_eq_false, and_true, true_and, and_false, false_and, or_true, true_or, or_false, false_or, and_self, or_self, Bool.false_eq_true]
    · have c2t : (r2 b t kd e).1 = true := by simpa using c2
      rw [if_neg c2]
      rw [if_pos c2t] at g2
      have o2 := st2_ok o1.2.1 c2t
      rw [e2] at o2
      obtain ⟨a27, a28⟩ := t2t c2t
      have h2 := h.1.fr (t23.trans t13)
      have b2 : (r2 b t kd e).2.1 ≤ 99 := by
        have := o2.2.2.1
        split at this
        · exact this
        · split at this <;> omega
      have n42 : ¬ nI (r2 b t kd e).2.1 = (-4) := nI_m4 (by omega)
      -- the third
      obtain ⟨f3, t33, t34, t3f, t3t⟩ : ∃ f3, f3 3 = F 1 3 ∧ f3 4 = F 1 4 ∧ ((r3 b t kd e).1 = false → f3 8 = nI (r3 b t kd e).2.1 ∧ f3 9 = nI (r3 b t kd e).2.2 ∧ dcall mX5_takeStatement [.ref 1] (mk Lx F A J) = some (some (.int (nI 0)), mk Lx (up F 1 f3) A J)) ∧ ((r3 b t kd e).1 = true → f3 7 = nI (r3 b t kd e).2.2 ∧ f3 8 = F 1 8 ∧ (r3 b t kd e).2.1 ≤ 7 ∧ (r3 b t kd e).2.2 ≤ t ∧ ∀ X : Option (Option Value × dS), den mX5_takeStatement 83 [some (.ref 1), some (.int (nI kd)), some (.int (nI (vr b t e).2.1)), some (.int (nI (r2 b t kd e).2.1)), some (.int (nI (r3 b t kd e).2.1))] [] (mk Lx (up F 1 f3) A J) = X → dcall mX5_takeStatement [.ref 1] (mk Lx F A J) = X) := by
        by_cases k05 : kd = 0 ∨ kd = 5
        · have e3 : r3 b t kd e = (true, 0, (r2 b t kd e).2.2) := by unfold r3 st3; rw [if_pos k05]
          rw [e3]
          refine ⟨f2, t23.trans t13, t24.trans t14, (fun z => by cases z), fun _ => ⟨a27, a28.trans a18, Nat.zero_le 7, o2.2.1, fun X hX => ?_⟩⟩
          rcases k05 with k0 | k5
          · subst k0
            simp (disch := omega) only [CX5_takeStatement, SX5_takeStatement_0, SX5_takeStatement_1, SX5_takeStatement_2, G1, O1, Op isP_2, kk, n4, ro, g1, n41, g2, n42, Option.bind_some, Option.bind_none, if_true, if_false, zr0, zr1, one11, one01, one0, one1, Option.toList_some, Option.toList_none, List.cons_append, List.nil_append, Nat.reduceEqDiff, Nat.reduceAdd, not_false_eq_true, not_true_eq_false, and_true, true_and, and_false, false_and, or_true, true_or, or_false, false_or, and_self, or_self, Bool.false_eq_true] at hX ⊢
            exact hX
          · subst k5
            simp (disch := omega) only [CX5_takeStatement, SX5_takeStatement_0, SX5_takeStatement_1, SX5_takeStatement_2, G1, O1, Op isP_2, kk, n4, ro, g1, n41, g2, n42, nI_e0, eq_self_iff_true, Option.bind_some, Option.bind_none, if_true, if_false, zr0, zr1, one11, one01, one0, one1, Option.toList_some, Option.toList_none, List.cons_append, List.nil_append, Nat.reduceEqDiff, Nat.reduceAdd, not_false_eq_true, not_true_eq_false, and_true, true_and, and_false, false_and, or_true, true_or, or_false, false_or, and_self, or_self, Bool.false_eq_true] at hX ⊢
            exact hX
        · have e3 : r3 b t kd e = vr b t (r2 b t kd e).2.2 := by unfold r3 st3; rw [if_neg k05]
          have k0 : ¬ kd = 0 := fun z => k05 (Or.inl z)
          have k5 : ¬ kd = 5 := fun z => k05 (Or.inr z)
          rw [e3]
          obtain ⟨f3, g3, u33, u34, u3t, u3f⟩ := c_takeVariable (Lx := Lx) (J := J) h2 o2.2.1 (by rw [up_eq]; exact a27)
          rw [up_up] at g3
          rw [up_eq] at u33 u34 u3t
          refine ⟨f3, u33.trans (t23.trans t13), u34.trans (t24.trans t14), fun z => ?_, fun z => ?_⟩
          · refine ⟨(u3f z).1, (u3f z).2, ?_⟩
            rw [if_neg (by rw [z]; decide)] at g3
            simp (disch := omega) only [CX5_takeStatement, SX5_takeStatement_0, SX5_takeStatement_1, SX5_takeStatement_2, G1, O1, Op isP_2, kk, n4, ro, g1, n41, g2, n42, nI_e0, nI_eq, k0, k5, g3, m44, Option.bind_some, Option.bind_none, if_true, if_false, zr0, zr1, one11, one01, one0, one1, Option.toList_some, Option.toList_none, List.cons_append, List.nil_append, Nat.reduceEqDiff, Nat.reduceAdd, not_false_eq_true, not_true_eq_false, and_true, true_and, and_false, false_and, or_true, true_or, or_false, false_or, and_self, or_self, Bool.false_eq_true]
          · have o3 := vr_ok o2.2.1 z
            refine ⟨(u3t z).1, (u3t z).2.trans (a28.trans a18), o3.2.2.1, o3.2.1, fun X hX => ?_⟩
            rw [if_pos z] at g3
            simp (disch := omega) only [CX5_takeStatement, SX5_takeStatement_0, SX5_takeStatement_1, SX5_takeStatement_2, G1, O1, Op isP_2, kk, n4, ro, g1, n41, g2, n42, nI_e0, nI_eq, k0, k5, g3, Option.bind_some, Option.bind_none, if_true, if_false, zr0, zr1, one11, one01, one0, one1, Option.toList_some, Option.toList_none, List.cons_append, List.nil_append, Nat.reduceEqDiff, Nat.reduceAdd, not_false_eq_true, not_true_eq_false, and_true, true_and, and_false, false_and, or_true, true_or, or_false, false_or, and_self, or_self, Bool.false_eq_true] at hX ⊢
            exact hX
      by_cases c3 : (r3 b t kd e).1 = false
      · rw [if_pos c3]
        exact ⟨f3, t33, t34, t3f, fun z => absurd (z.symm.trans c3) (by decide)⟩
      · have c3t : (r3 b t kd e).1 = true := by simpa using c3
        rw [if_neg c3]
        obtain ⟨a37, a38, b3, b3t, go⟩ := t3t c3t
        have n43 : ¬ nI (r3 b t kd e).2.1 = (-4) := nI_m4 (by omega)
        have h3 := h.1.fr t33
        obtain ⟨f4, g4, t43, t44, t4t, t4f⟩ := c_takeSign (Lx := Lx) (J := J) h3 (x := if kd = 5 then 123 else 59) (by split <;> decide) b3t (by rw [up_eq]; exact a37)
        rw [up_up] at g4
        rw [up_eq] at t43 t44 t4t
        have e4 : sg b t (if kd = 5 then 123 else 59) (r3 b t kd e).2.2 = r4 b t kd e := rfl
        rw [e4] at g4 t4t t4f
        refine ⟨f4, t43.trans t33, t44.trans t34, fun z => ⟨(t4f z).1, (t4f z).2, ?_⟩, fun z => ⟨(t4t z).1, (t4t z).2.trans a38, fun X hX => ?_⟩⟩
        · rw [z, zIf] at g4
          apply go
          by_cases k5 : kd = 5
          · rw [if_pos k5] at g4
            subst k5
            simp (disch := omega) only [SX5_takeStatement_0, SX5_takeStatement_1, SX5_takeStatement_2, O1, n43, g4, eq_self_iff_true, Option.bind_some, Option.bind_none, if_true, if_false, zr0, zr1, one11, one01, one0, one1, Option.toList_some, Option.toList_none, List.cons_append, List.nil_append, Nat.reduceEqDiff, Nat.reduceAdd, not_false_eq_true, not_true_eq_false, and_true, true_and, and_false, false_and, or_true, true_or, or_false, false_or, and_self, or_self, Bool.false_eq_true]
          · rw [if_neg k5] at g4
            simp (disch := omega) only [SX5_takeStatement_0, SX5_takeStatement_1, SX5_takeStatement_2, O1, n43, nI_eq, k5, g4, Option.bind_some, Option.bind_none, if_true, if_false, zr0, zr1, one11, one01, one0, one1, Option.toList_some, Option.toList_none, List.cons_append, List.nil_append, Nat.reduceEqDiff, Nat.reduceAdd, not_false_eq_true, not_true_eq_false, and_true, true_and, and_false, false_and, or_true, true_or, or_false, false_or, and_self, or_self, Bool.false_eq_true]
        · rw [z, zIt] at g4
          apply go
          by_cases k5 : kd = 5
          · rw [if_pos k5] at g4
            subst k5
            simp (disch := omega) only [SX5_takeStatement_0, SX5_takeStatement_1, SX5_takeStatement_2, G1, O1, n43, g4, eq_self_iff_true, Option.bind_some, Option.bind_none, if_true, if_false, zr0, zr1, one11, one01, one0, one1, Option.toList_some, Option.toList_none, List.cons_append, List.nil_append, Nat.reduceEqDiff, Nat.reduceAdd, not_false_eq_true, not_true_eq_false, and_true, true_and, and_false, false_and, or_true, true_or, or_false, false_or, and_self, or_self, Bool.false_eq_true] at hX ⊢
            exact hX
          · rw [if_neg k5] at g4
            simp (disch := omega) only [SX5_takeStatement_0, SX5_takeStatement_1, SX5_takeStatement_2, G1, O1, n43, nI_eq, k5, g4, Option.bind_some, Option.bind_none, if_true, if_false, zr0, zr1, one11, one01, one0, one1, Option.toList_some, Option.toList_none, List.cons_append, List.nil_append, Nat.reduceEqDiff, Nat.reduceAdd, not_false_eq_true, not_true_eq_false, and_true, true_and, and_false, false_and, or_true, true_or, or_false, false_or, and_self, or_self, Bool.false_eq_true] at hX ⊢
            exact hX
end STM6
