section ITEMS2
variable {Lx : Nat} {F A : Nat → Nat → Int32} {J : Nat → Nat → Int64} {b : Nat → Nat} {t : Nat}
theorem c_readVariableF (h : tpM F A b t) {e q : Nat} (hf : FT (F 56) e q) : ∃ x, dcall mX7_readVariable [.ref 56] (mk Lx F A J) = some (some (.int x), mk Lx F A J) := by
  obtain ⟨h0, h9, h10, -, s, hs, h7⟩ := hf
  have e0 : ¬ e = 0 := by omega
  have hb := c_byteAt (Lx := Lx) (J := J) h (p := s) (by omega)
  have rf := c_readsF (Lx := Lx) (A := A) (J := J) h0 h9 h10
  by_cases hc : bv b t s < nI 97
  · refine ⟨nI 0, ?_⟩
    simp (disch := omega) only [CX7_readVariable, SX7_readVariable_0, SX7_readVariable_1, G56, O56, h7, h10, hb, nI_e0, e0, rf, hc, Option.bind_some, Option.bind_none, if_true, if_false, zr0, zr1, one11, one01, one0, one1, Option.toList_some, Option.toList_none, List.cons_append, List.nil_append, Nat.reduceEqDiff, Nat.reduceAdd, not_false_eq_true, not_true_eq_false, and_true, true_and, and_false, false_and, or_true, true_or, or_false, false_or, and_self, or_self, Bool.false_eq_true]
  · refine ⟨bv b t s - nI 97, ?_⟩
    simp (disch := omega) only [CX7_readVariable, SX7_readVariable_0, SX7_readVariable_1, G56, O56, h7, h10, hb, nI_e0, e0, rf, hc, Option.bind_some, Option.bind_none, if_true, if_false, zr0, zr1, one11, one01, one0, one1, Option.toList_some, Option.toList_none, List.cons_append, List.nil_append, Nat.reduceEqDiff, Nat.reduceAdd, not_false_eq_true, not_true_eq_false, and_true, true_and, and_false, false_and, or_true, true_or, or_false, false_or, and_self, or_self, Bool.false_eq_true]
theorem c_readVariable (h : tpM F A b t) {p : Nat} (hr : RT (F 56) b t p) : ∃ f x, dcall mX7_readVariable [.ref 56] (mk Lx F A J) = some (some (.int x), mk Lx (up F 56 f) A J) ∧ GO f b t (vr b t p) ∧ fr6 (F 56) f ∧ ((vr b t p).1 = true → x = nI (vr b t p).2.1) := by
  have ht := h.1
  have hl := t_le (b := b) hr.1
  have sl := sK_le b t p
  obtain ⟨hp, h6, h7, h10, h9, hb7⟩ := id hr
  unfold vr
  by_cases k7 : tK b t p = 7
  · rw [if_pos k7]
    have hf := hr.ft ht k7
    obtain ⟨x, e⟩ := c_readVariableF (Lx := Lx) (J := J) h hf
    refine ⟨F 56, x, by rw [up_id]; exact e, ⟨(fun z => by cases z), fun _ => hf⟩, fun _ _ _ _ _ _ _ => rfl, (fun z => by cases z)⟩
  · rw [if_neg k7]
    obtain ⟨g10, g8⟩ := h10 k7
    have hb := c_byteAt (Lx := Lx) (J := J) h (p := tS b t p) (by omega)
    by_cases c : tK b t p = 1 ∧ tE b t p = tS b t p + 1 ∧ b (tS b t p) ≤ 104
    · rw [if_pos c]
      obtain ⟨q1, q2, q3⟩ := tK1 c.1
      have s1 := sK_1.mpr c.1
      rw [s1] at g8
      unfold bv at hb
      rw [if_pos q1] at hb
      have e1 : tE b t p - tS b t p = 1 := by omega
      obtain ⟨f, r1, r2⟩ := c_reads (Lx := Lx) (J := J) h hl.2.2.1 g10 h6
      obtain ⟨rt, fr⟩ := r2.rt hl.2.2.1
      have b97 : ¬ b (tS b t p) < 97 := by omega
      refine ⟨f, nI (b (tS b t p) - 97), ?_, ⟨fun _ => rt, (fun z => by cases z)⟩, fr, fun _ => rfl⟩
      by_cases k7e : tK b t (tE b t p) = 7
      · have f10 := (rt.2.2.2.2.2 k7e).1
        simp (disch := omega) only [CX7_readVariable, SX7_readVariable_0, SX7_readVariable_1, G56, O56, h6, h7, g8, g10, hb, nI_s, e1, c_in, w64N, w64le, nI_leI, q2, c.2.2, bI_0, c_reqY, r1, up_eq, f10, nI_ltI, b97, eq_self_iff_true, Option.bind_some, Option.bind_none, if_true, if_false, zr0, zr1, one11, one01, one0, one1, Option.toList_some, Option.toList_none, List.cons_append, List.nil_append, Nat.reduceEqDiff, Nat.reduceAdd, not_false_eq_true, not_true_eq_false, and_true, true_and, and_false, false_and, or_true, true_or, or_false, false_or, and_self, or_self, Bool.false_eq_true]
      · have f10 := (rt.2.2.2.1 k7e).1
        simp (disch := omega) only [CX7_readVariable, SX7_readVariable_0, SX7_readVariable_1, G56, O56, h6, h7, g8, g10, hb, nI_s, e1, c_in, w64N, w64le, nI_leI, q2, c.2.2, bI_0, c_reqY, r1, up_eq, f10, eq_self_iff_true, Option.bind_some, Option.bind_none, if_true, if_false, zr0, zr1, one11, one01, one0, one1, Option.toList_some, Option.toList_none, List.cons_append, List.nil_append, Nat.reduceEqDiff, Nat.reduceAdd, not_false_eq_true, not_true_eq_false, and_true, true_and, and_false, false_and, or_true, true_or, or_false, false_or, and_self, or_self, Bool.false_eq_true]
    · rw [if_neg c]
      have rq := c_reqN (Lx := Lx) (A := A) (J := J) (nI 2) g10
      have rf := c_readsF (Lx := Lx) (A := A) (J := J) (F := up F 56 (up (up (F 56) 10 (nI 2)) 11 (F 56 7))) (e := 2) (by decide) (by decide) (by simp (disch := omega) only [up_eq, up_ne])
      rw [h7] at rq rf
      have two : ¬ nI 2 = 0 := by decide
      have go : ∀ x, (bv b t (tS b t p) < nI 97 → x = nI 0) → (¬ bv b t (tS b t p) < nI 97 → x = bv b t (tS b t p) - nI 97) → dcall mX7_readVariable [.ref 56] (mk Lx F A J) = some (some (.int x), mk Lx (up F 56 (up (up (F 56) 10 (nI 2)) 11 (nI (tS b t p)))) A J) := fun x x1 x2 => by
        by_cases k1 : tK b t p = 1
        · have s1 := sK_1.mpr k1
          rw [s1] at g8
          obtain ⟨q1, q2, q3⟩ := tK1 k1
          have bb : bv b t (tS b t p) = nI (b (tS b t p)) := by unfold bv; rw [if_pos q1]
          have nb : ¬ bv b t (tS b t p) < nI 97 := by rw [bb]; exact fun z => absurd ((nI_ltI (by omega) (by decide)).mp z) (by omega)
          have ex := x2 nb
          subst ex
          have l2 := hl.2.2.2 (by omega)
          by_cases e1 : tE b t p = tS b t p + 1
          · have e3 : tE b t p - tS b t p = 1 := by omega
            have e4 : ¬ b (tS b t p) ≤ 104 := fun z => c ⟨k1, e1, z⟩
            rw [bb] at hb nb ⊢
            simp (disch := omega) only [CX7_readVariable, SX7_readVariable_0, SX7_readVariable_1, G56, O56, h6, h7, g8, g10, hb, nI_s, e3, c_in, w64N, w64le, nI_leI, q2, e4, bI_0, rq, rf, up_eq, up_ne, two, nb, eq_self_iff_true, Option.bind_some, Option.bind_none, if_true, if_false, zr0, zr1, one11, one01, one0, one1, Option.toList_some, Option.toList_none, List.cons_append, List.nil_append, Nat.reduceEqDiff, Nat.reduceAdd, not_false_eq_true, not_true_eq_false, and_true, true_and, and_false, false_and, or_true, true_or, or_false, false_or, and_self, or_self, Bool.false_eq_true]
          · have e3 : ¬ tE b t p - tS b t p = 1 := by omega
            simp (disch := omega) only [CX7_readVariable, SX7_readVariable_0, SX7_readVariable_1, G56, O56, h6, h7, g8, g10, hb, nI_s, nI_eq, e3, rq, rf, up_eq, up_ne, two, nb, eq_self_iff_true, Option.bind_some, Option.bind_none, if_true, if_false, zr0, zr1, one11, one01, one0, one1, Option.toList_some, Option.toList_none, List.cons_append, List.nil_append, Nat.reduceEqDiff, Nat.reduceAdd, not_false_eq_true, not_true_eq_false, and_true, true_and, and_false, false_and, or_true, true_or, or_false, false_or, and_self, or_self, Bool.false_eq_true]
        · have s1 : ¬ sK (tK b t p) = 1 := fun z => k1 (sK_1.mp z)
          by_cases hc : bv b t (tS b t p) < nI 97
          · have ex := x1 hc
            subst ex
            simp (disch := omega) only [CX7_readVariable, SX7_readVariable_0, SX7_readVariable_1, G56, O56, h6, h7, g8, g10, hb, nI_eq, s1, rq, rf, up_eq, up_ne, two, hc, Option.bind_some, Option.bind_none, if_true, if_false, zr0, zr1, one11, one01, one0, one1, Option.toList_some, Option.toList_none, List.cons_append, List.nil_append, Nat.reduceEqDiff, Nat.reduceAdd, not_false_eq_true, not_true_eq_false, and_true, true_and, and_false, false_and, or_true, true_or, or_false, false_or, and_self, or_self, Bool.false_eq_true]
          · have ex := x2 hc
            subst ex
            simp (disch := omega) only [CX7_readVariable, SX7_readVariable_0, SX7_readVariable_1, G56, O56, h6, h7, g8, g10, hb, nI_eq, s1, rq, rf, up_eq, up_ne, two, hc, Option.bind_some, Option.bind_none, if_true, if_false, zr0, zr1, one11, one01, one0, one1, Option.toList_some, Option.toList_none, List.cons_append, List.nil_append, Nat.reduceEqDiff, Nat.reduceAdd, not_false_eq_true, not_true_eq_false, and_true, true_and, and_false, false_and, or_true, true_or, or_false, false_or, and_self, or_self, Bool.false_eq_true]
      refine ⟨up (up (F 56) 10 (nI 2)) 11 (nI (tS b t p)), if bv b t (tS b t p) < nI 97 then nI 0 else bv b t (tS b t p) - nI 97, go _ (fun z => if_pos z) (fun z => if_neg z), ⟨(fun z => by cases z), fun _ => ⟨(show 0 < 2 by decide), (show 2 < 10 by decide), ?_, ?_, tS b t p, by omega, ?_⟩⟩, fun q _ _ _ _ a5 a6 => by rw [up_ne _ _ a6, up_ne _ _ a5], (fun z => by cases z)⟩
      · simp (disch := omega) only [up_eq, up_ne]
      · simp (disch := omega) only [up_eq]
      · simp (disch := omega) only [up_ne]; exact h7
theorem c_readNumberF {e q : Nat} (hf : FT (F 56) e q) (lo hi : Int32) : dcall mX7_readNumber [.ref 56, .int lo, .int hi] (mk Lx F A J) = some (some (.int (nI 0)), mk Lx F A J) := by
  obtain ⟨h0, h9, h10, -⟩ := hf
  have e0 : ¬ e = 0 := by omega
  have rf := c_readsF (Lx := Lx) (A := A) (J := J) h0 h9 h10
  simp (disch := omega) only [CX7_readNumber, SX7_readNumber, G56, O56, h10, nI_e0, e0, rf, Option.bind_some, Option.bind_none, if_true, if_false, zr0, zr1, one11, one01, one0, one1, Option.toList_some, Option.toList_none, List.cons_append, List.nil_append, Nat.reduceEqDiff, Nat.reduceAdd, not_false_eq_true, not_true_eq_false, and_true, true_and, and_false, false_and, or_true, true_or, or_false, false_or, and_self, or_self, Bool.false_eq_true]
theorem c_readNumber (h : tpM F A b t) {p m : Nat} (hm : m ≤ 99) (hr : RT (F 56) b t p) : ∃ f x, dcall mX7_readNumber [.ref 56, .int (nI 0), .int (nI m)] (mk Lx F A J) = some (some (.int x), mk Lx (up F 56 f) A J) ∧ GO f b t (nm b t m p) ∧ fr6 (F 56) f ∧ ((nm b t m p).1 = true → x = nI (nm b t m p).2.1) := by
  have ht := h.1
  have hl := t_le (b := b) hr.1
  have sl := sK_le b t p
  obtain ⟨hp, h6, h7, h10, h9, hb7⟩ := id hr
  unfold nm
  by_cases k7 : tK b t p = 7
  · rw [if_pos k7]
    have hf := hr.ft ht k7
    have e := c_readNumberF (Lx := Lx) (A := A) (J := J) hf (nI 0) (nI m)
    refine ⟨F 56, nI 0, by rw [up_id]; exact e, ⟨(fun z => by cases z), fun _ => hf⟩, fun _ _ _ _ _ _ _ => rfl, (fun z => by cases z)⟩
  · rw [if_neg k7]
    obtain ⟨g10, g8⟩ := h10 k7
    have two : ¬ nI 2 = 0 := by decide
    have three : ¬ nI 3 = 0 := by decide
    by_cases c : tK b t p = 2
    · rw [if_pos c]
      have s2 := sK_2.mpr c
      rw [s2] at g8
      have g9 := h9 c
      obtain ⟨q1, q2, q3⟩ := tK2 hp c
      have hv : tV b t p ≤ 99 := by
        unfold tV
        split <;> omega
      by_cases w : tV b t p ≤ m
      · rw [if_pos w]
        obtain ⟨f, r1, r2⟩ := c_reads (Lx := Lx) (J := J) h hl.2.2.1 g10 h6
        obtain ⟨rt, fr⟩ := r2.rt hl.2.2.1
        refine ⟨f, nI (tV b t p), ?_, ⟨fun _ => rt, (fun z => by cases z)⟩, fr, fun _ => rfl⟩
        have z0 : (0 : Nat) ≤ tV b t p := Nat.zero_le _
        have bt : bI (0 ≤ tV b t p ∧ tV b t p ≤ m) = nI 1 := bI_t ⟨z0, w⟩
        have bt2 : bI (nI 0 ≤ nI (tV b t p) ∧ nI (tV b t p) ≤ nI m) = nI 1 := bI_t ⟨nI_le (by omega) (by omega), nI_le w (by omega)⟩
        simp (disch := omega) only [CX7_readNumber, SX7_readNumber, G56, O56, g8, g9, g10, c_in, w64le, bt2, c_reqY, r1, eq_self_iff_true, Option.bind_some, Option.bind_none, if_true, if_false, zr0, zr1, one11, one01, one0, one1, Option.toList_some, Option.toList_none, List.cons_append, List.nil_append, Nat.reduceEqDiff, Nat.reduceAdd, not_false_eq_true, not_true_eq_false, and_true, true_and, and_false, false_and, or_true, true_or, or_false, false_or, and_self, or_self, Bool.false_eq_true]
      · rw [if_neg w]
        have bt2 : bI (nI 0 ≤ nI (tV b t p) ∧ nI (tV b t p) ≤ nI m) = nI 0 := bI_f (fun z => w ((nI_leI (by omega) (by omega)).mp z.2))
        have rq := c_reqN (Lx := Lx) (A := A) (J := J) (nI 3) g10
        have rf := c_readsF (Lx := Lx) (A := A) (J := J) (F := up F 56 (up (up (F 56) 10 (nI 3)) 11 (F 56 7))) (e := 3) (by decide) (by decide) (by simp (disch := omega) only [up_eq, up_ne])
        rw [h7] at rq rf
        refine ⟨up (up (F 56) 10 (nI 3)) 11 (nI (tS b t p)), nI 0, ?_, ⟨(fun z => by cases z), fun _ => ⟨(show 0 < 3 by decide), (show 3 < 10 by decide), ?_, ?_, tS b t p, by omega, ?_⟩⟩, fun q _ _ _ _ a5 a6 => by rw [up_ne _ _ a6, up_ne _ _ a5], (fun z => by cases z)⟩
        · simp (disch := omega) only [CX7_readNumber, SX7_readNumber, G56, O56, g8, g9, g10, c_in, w64le, bt2, c_reqY, rq, rf, up_eq, up_ne, three, eq_self_iff_true, Option.bind_some, Option.bind_none, if_true, if_false, zr0, zr1, one11, one01, one0, one1, Option.toList_some, Option.toList_none, List.cons_append, List.nil_append, Nat.reduceEqDiff, Nat.reduceAdd, not_false_eq_true, not_true_eq_false, and_true, true_and, and_false, false_and, or_true, true_or, or_false, false_or, and_self, or_self, Bool.false_eq_true]
        · simp (disch := omega) only [up_eq, up_ne]
        · simp (disch := omega) only [up_eq]
        · simp (disch := omega) only [up_ne]; exact h7
    · rw [if_neg c]
      have s2 : ¬ sK (tK b t p) = 2 := fun z => c (sK_2.mp z)
      have rq := c_reqN (Lx := Lx) (A := A) (J := J) (nI 2) g10
      have rf := c_readsF (Lx := Lx) (A := A) (J := J) (F := up F 56 (up (up (F 56) 10 (nI 2)) 11 (F 56 7))) (e := 2) (by decide) (by decide) (by simp (disch := omega) only [up_eq, up_ne])
      rw [h7] at rq rf
      refine ⟨up (up (F 56) 10 (nI 2)) 11 (nI (tS b t p)), nI 0, ?_, ⟨(fun z => by cases z), fun _ => ⟨(show 0 < 2 by decide), (show 2 < 10 by decide), ?_, ?_, tS b t p, by omega, ?_⟩⟩, fun q _ _ _ _ a5 a6 => by rw [up_ne _ _ a6, up_ne _ _ a5], (fun z => by cases z)⟩
      · simp (disch := omega) only [CX7_readNumber, SX7_readNumber, G56, O56, g8, g10, nI_eq, s2, rq, rf, up_eq, up_ne, two, Option.bind_some, Option.bind_none, if_true, if_false, zr0, zr1, one11, one01, one0, one1, Option.toList_some, Option.toList_none, List.cons_append, List.nil_append, Nat.reduceEqDiff, Nat.reduceAdd, not_false_eq_true, not_true_eq_false, and_true, true_and, and_false, false_and, or_true, true_or, or_false, false_or, and_self, or_self, Bool.false_eq_true]
      · simp (disch := omega) only [up_eq, up_ne]
      · simp (disch := omega) only [up_eq]
      · simp (disch := omega) only [up_ne]; exact h7
theorem c_takesF {e q : Nat} (hf : FT (F 56) e q) (x : Int32) : dcall mX7_takes [.ref 56, .int x] (mk Lx F A J) = some (none, mk Lx F A J) := by
  obtain ⟨h0, h9, h10, -⟩ := hf
  have e0 : ¬ e = 0 := by omega
  have rf := c_readsF (Lx := Lx) (A := A) (J := J) h0 h9 h10
  simp (disch := omega) only [CX7_takes, SX7_takes, G56, O56, h10, nI_e0, e0, rf, Option.bind_some, Option.bind_none, if_true, if_false, zr0, zr1, one11, one01, one0, one1, Option.toList_some, Option.toList_none, List.cons_append, List.nil_append, Nat.reduceEqDiff, Nat.reduceAdd, not_false_eq_true, not_true_eq_false, and_true, true_and, and_false, false_and, or_true, true_or, or_false, false_or, and_self, or_self, Bool.false_eq_true]
theorem c_takes (h : tpM F A b t) {p x y : Nat} (hxy : (x = 59 ∧ y = 3) ∨ (x = 123 ∧ y = 4)) (hr : RT (F 56) b t p) : ∃ f, dcall mX7_takes [.ref 56, .int (nI y)] (mk Lx F A J) = some (none, mk Lx (up F 56 f) A J) ∧ GO f b t (sg b t x p) ∧ fr6 (F 56) f := by
  have ht := h.1
  have hl := t_le (b := b) hr.1
  have sl := sK_le b t p
  obtain ⟨hp, h6, h7, h10, h9, hb7⟩ := id hr
  have sx : sK (tK b t p) = y ↔ tK b t p = x := by
    rcases hxy with ⟨rfl, rfl⟩ | ⟨rfl, rfl⟩
    · exact sK_3
    · exact sK_4
  unfold sg
  by_cases k7 : tK b t p = 7
  · rw [if_pos k7]
    have hf := hr.ft ht k7
    have e := c_takesF (Lx := Lx) (A := A) (J := J) hf (nI y)
    exact ⟨F 56, by rw [up_id]; exact e, ⟨(fun z => by cases z), fun _ => hf⟩, fun _ _ _ _ _ _ _ => rfl⟩
  · rw [if_neg k7]
    obtain ⟨g10, g8⟩ := h10 k7
    by_cases c : tK b t p = x
    · rw [if_pos c]
      rw [sx.mpr c] at g8
      obtain ⟨f, r1, r2⟩ := c_reads (Lx := Lx) (J := J) h hl.2.2.1 g10 h6
      obtain ⟨rt, fr⟩ := r2.rt hl.2.2.1
      refine ⟨f, ?_, ⟨fun _ => rt, (fun z => by cases z)⟩, fr⟩
      simp (disch := omega) only [CX7_takes, SX7_takes, G56, O56, g8, g10, c_reqY, r1, eq_self_iff_true, Option.bind_some, Option.bind_none, if_true, if_false, zr0, zr1, one11, one01, one0, one1, Option.toList_some, Option.toList_none, List.cons_append, List.nil_append, Nat.reduceEqDiff, Nat.reduceAdd, not_false_eq_true, not_true_eq_false, and_true, true_and, and_false, false_and, or_true, true_or, or_false, false_or, and_self, or_self, Bool.false_eq_true]
    · rw [if_neg c]
      have s2 : ¬ sK (tK b t p) = y := fun z => c (sx.mp z)
      have rq := c_reqN (Lx := Lx) (A := A) (J := J) (nI 2) g10
      have rf := c_readsF (Lx := Lx) (A := A) (J := J) (F := up F 56 (up (up (F 56) 10 (nI 2)) 11 (F 56 7))) (e := 2) (by decide) (by decide) (by simp (disch := omega) only [up_eq, up_ne])
      rw [h7] at rq rf
      refine ⟨up (up (F 56) 10 (nI 2)) 11 (nI (tS b t p)), ?_, ⟨(fun z => by cases z), fun _ => ⟨(show 0 < 2 by decide), (show 2 < 10 by decide), ?_, ?_, tS b t p, by omega, ?_⟩⟩, fun q _ _ _ _ a5 a6 => by rw [up_ne _ _ a6, up_ne _ _ a5]⟩
      · simp (disch := omega) only [CX7_takes, SX7_takes, G56, O56, g8, g10, nI_eq, s2, rq, rf, Option.bind_some, Option.bind_none, if_true, if_false, zr0, zr1, one11, one01, one0, one1, Option.toList_some, Option.toList_none, List.cons_append, List.nil_append, Nat.reduceEqDiff, Nat.reduceAdd, not_false_eq_true, not_true_eq_false, and_true, true_and, and_false, false_and, or_true, true_or, or_false, false_or, and_self, or_self, Bool.false_eq_true]
      · simp (disch := omega) only [up_eq, up_ne]
      · simp (disch := omega) only [up_eq]
      · simp (disch := omega) only [up_ne]; exact h7
end ITEMS2
