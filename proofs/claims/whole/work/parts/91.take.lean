theorem sp_in {b : Nat → Nat} {t lo hi : Nat} : ∀ k p, p + k = t → ∀ q, p ≤ q → q < sp b t lo hi p → lo ≤ b q ∧ b q ≤ hi := by
  intro k
  induction k with
  | zero =>
    intro p hp q h1 h2
    rw [sp_f (by omega)] at h2
    omega
  | succ k ih =>
    intro p hp q h1 h2
    by_cases z : p < t ∧ lo ≤ b p ∧ b p ≤ hi
    · rw [sp_t z] at h2
      by_cases e : q = p
      · rw [e]; exact z.2
      · exact ih (p + 1) (by omega) q (by omega) h2
    · rw [sp_f z] at h2
      omega
def tV (b : Nat → Nat) (t p : Nat) : Nat := if tE b t p - tS b t p = 1 then b (tS b t p) - 48 else 10 * (b (tS b t p) - 48) + (b (tS b t p + 1) - 48)
theorem tK1 {b : Nat → Nat} {t p : Nat} (h : tK b t p = 1) : tS b t p < t ∧ 97 ≤ b (tS b t p) ∧ b (tS b t p) ≤ 122 := by
  unfold tK at h
  by_cases z : t ≤ tS b t p
  · rw [if_pos z] at h; omega
  · rw [if_neg z] at h
    by_cases y : 97 ≤ b (tS b t p) ∧ b (tS b t p) ≤ 122
    · exact ⟨by omega, y⟩
    · rw [if_neg y] at h
      split at h
      · split at h <;> omega
      · split at h
        · rename_i w; omega
        · omega
theorem tK2 {b : Nat → Nat} {t p : Nat} (hp : p ≤ t) (h : tK b t p = 2) : tS b t p < t ∧ (48 ≤ b (tS b t p) ∧ b (tS b t p) ≤ 57) ∧ (tE b t p = tS b t p + 1 ∨ (tE b t p = tS b t p + 2 ∧ 48 ≤ b (tS b t p + 1) ∧ b (tS b t p + 1) ≤ 57)) := by
  have hl := t_le (b := b) hp
  have hl4 := hl.2.2.2 (by omega)
  have e2 : tE b t p = if t ≤ tS b t p then tS b t p else if 97 ≤ b (tS b t p) ∧ b (tS b t p) ≤ 122 then sp b t 97 122 (tS b t p) else if 48 ≤ b (tS b t p) ∧ b (tS b t p) ≤ 57 then sp b t 48 57 (tS b t p) else tS b t p + 1 := rfl
  unfold tK at h
  by_cases z : t ≤ tS b t p
  · rw [if_pos z] at h; omega
  · rw [if_neg z] at h e2
    by_cases y : 97 ≤ b (tS b t p) ∧ b (tS b t p) ≤ 122
    · rw [if_pos y] at h; omega
    · rw [if_neg y] at h e2
      by_cases x : 48 ≤ b (tS b t p) ∧ b (tS b t p) ≤ 57
      · rw [if_pos x] at h e2
        by_cases w : tE b t p - tS b t p ≤ 2
        · refine ⟨by omega, x, ?_⟩
          rcases Nat.lt_or_ge (tS b t p + 1) (tE b t p) with v | v
          · have := sp_in (b := b) (t := t) (lo := 48) (hi := 57) (t - tS b t p) (tS b t p) (by omega) (tS b t p + 1) (by omega) (by omega)
            exact Or.inr ⟨by omega, this⟩
          · exact Or.inl (by omega)
        · rw [if_neg w] at h; omega
      · rw [if_neg x] at h
        split at h
        · rename_i w; omega
        · omega
def vr (b : Nat → Nat) (t p : Nat) : Bool × Nat × Nat := if tK b t p = 7 then (false, 1, tS b t p) else if tK b t p = 1 ∧ tE b t p = tS b t p + 1 ∧ b (tS b t p) ≤ 104 then (true, b (tS b t p) - 97, tE b t p) else (false, 2, tS b t p)
def nm (b : Nat → Nat) (t most p : Nat) : Bool × Nat × Nat := if tK b t p = 7 then (false, 1, tS b t p) else if tK b t p = 2 then (if tV b t p ≤ most then (true, tV b t p, tE b t p) else (false, 3, tS b t p)) else (false, 2, tS b t p)
def sg (b : Nat → Nat) (t x p : Nat) : Bool × Nat × Nat := if tK b t p = 7 then (false, 1, tS b t p) else if tK b t p = x then (true, 0, tE b t p) else (false, 2, tS b t p)
/-- what the class's tape is after a take -/
def tpo (F : Nat → Nat → Int32) (f : Nat → Int32) (R : Bool × Nat × Nat) : Prop := f 3 = F 1 3 ∧ f 4 = F 1 4 ∧ (R.1 = true → f 7 = nI R.2.2 ∧ f 8 = F 1 8) ∧ (R.1 = false → f 8 = nI R.2.1 ∧ f 9 = nI R.2.2)
section TAKE6
variable {Lx : Nat} {F A : Nat → Nat → Int32} {J : Nat → Nat → Int64} {b : Nat → Nat} {t : Nat}
theorem tKv (h : tpX F A b t) (p : Nat) : tK b t p ≤ 125 := by
  unfold tK
  split
  · omega
  · split
    · omega
    · split
      · split <;> omega
      · split <;> omega
theorem c_takeVariable (h : tpX F A b t) {p : Nat} (hp : p ≤ t) (h7 : F 1 7 = nI p) : ∃ f, dcall mX5_takeVariable [.ref 1] (mk Lx F A J) = some (some (.int (if (vr b t p).1 = true then nI (vr b t p).2.1 else (-4))), mk Lx (up F 1 f) A J) ∧ tpo F f (vr b t p) := by
  obtain ⟨f, g1, g3, g4, g6, g7, gk, gb⟩ := c_readToken (Lx := Lx) (J := J) h hp h7
  have ht := h.1
  have hl := t_le (b := b) hp
  have hkv := tKv h p
  unfold vr
  by_cases k7 : tK b t p = 7
  · rw [if_pos k7]
    rw [if_pos k7] at g1
    refine ⟨f, ?_, g3, g4, (fun y => by cases y), fun _ => gb k7⟩
    simp (disch := omega) only [CX5_takeVariable, SX5_takeVariable, O1, g1, Option.bind_some, Option.bind_none, if_true, if_false, zr0, zr1, one11, one01, one0, one1, Option.toList_some, Option.toList_none, List.cons_append, List.nil_append, Nat.reduceEqDiff, Nat.reduceAdd, not_false_eq_true, not_true_eq_false, and_true, true_and, and_false, false_and, or_true, true_or, or_false, false_or, and_self, or_self, Bool.false_eq_true]
  · rw [if_neg k7]
    rw [if_neg k7] at g1
    obtain ⟨g5, g8⟩ := gk k7
    have bad : ∀ X : Option (Option Value × dS), (X = some (some (.int (-4)), mk Lx (up F 1 (up (up f 8 (nI 2)) 9 (nI (tS b t p)))) A J)) → ¬ (tK b t p = 1 ∧ tE b t p = tS b t p + 1 ∧ b (tS b t p) ≤ 104) → dcall mX5_takeVariable [.ref 1] (mk Lx F A J) = X := fun X hX hn => by
      subst hX
      by_cases k1 : tK b t p = 1
      · have l2 := hl.2.2.2 (by omega)
        obtain ⟨q1, q2, q3⟩ := tK1 k1
        obtain ⟨b7, b1⟩ := h.2.2 _ q1
        rw [k1] at g5
        by_cases e1 : tE b t p = tS b t p + 1
        · have e2 : ¬ b (tS b t p) - 97 < 8 := fun z => hn ⟨k1, e1, by omega⟩
          have e3 : tE b t p - tS b t p = 1 := by omega
          simp (disch := omega) only [CX5_takeVariable, SX5_takeVariable, O1, G1, g1, up_eq, g5, g6, g7, nI_s, e3, a10, b1, nI_ltI, e2, c_refuse, up_up, eq_self_iff_true, Option.bind_some, Option.bind_none, if_true, if_false, zr0, zr1, one11, one01, one0, one1, Option.toList_some, Option.toList_none, List.cons_append, List.nil_append, Nat.reduceEqDiff, Nat.reduceAdd, not_false_eq_true, not_true_eq_false, and_true, true_and, and_false, false_and, or_true, true_or, or_false, false_or, and_self, or_self, Bool.false_eq_true]
        · have e3 : ¬ tE b t p - tS b t p = 1 := by omega
          simp (disch := omega) only [CX5_takeVariable, SX5_takeVariable, O1, G1, g1, up_eq, g5, g6, g7, nI_s, nI_eq, e3, c_refuse, up_up, eq_self_iff_true, Option.bind_some, Option.bind_none, if_true, if_false, zr0, zr1, one11, one01, one0, one1, Option.toList_some, Option.toList_none, List.cons_append, List.nil_append, Nat.reduceEqDiff, Nat.reduceAdd, not_false_eq_true, not_true_eq_false, and_true, true_and, and_false, false_and, or_true, true_or, or_false, false_or, and_self, or_self, Bool.false_eq_true]
      · simp (disch := omega) only [CX5_takeVariable, SX5_takeVariable, O1, G1, g1, up_eq, g5, g6, nI_eq, k1, c_refuse, up_up, Option.bind_some, Option.bind_none, if_true, if_false, zr0, zr1, one11, one01, one0, one1, Option.toList_some, Option.toList_none, List.cons_append, List.nil_append, Nat.reduceEqDiff, Nat.reduceAdd, not_false_eq_true, not_true_eq_false, and_true, true_and, and_false, false_and, or_true, true_or, or_false, false_or, and_self, or_self, Bool.false_eq_true]
    by_cases c : tK b t p = 1 ∧ tE b t p = tS b t p + 1 ∧ b (tS b t p) ≤ 104
    · rw [if_pos c]
      obtain ⟨q1, q2, q3⟩ := tK1 c.1
      obtain ⟨b7, b1⟩ := h.2.2 _ q1
      have e2 : b (tS b t p) - 97 < 8 := by omega
      have e3 : tE b t p - tS b t p = 1 := by omega
      rw [c.1] at g5
      refine ⟨f, ?_, g3, g4, fun _ => ⟨g7, g8⟩, (fun y => by cases y)⟩
      simp (disch := omega) only [CX5_takeVariable, SX5_takeVariable, O1, G1, g1, up_eq, g5, g6, g7, nI_s, e3, a10, b1, nI_ltI, e2, eq_self_iff_true, Option.bind_some, Option.bind_none, if_true, if_false, zr0, zr1, one11, one01, one0, one1, Option.toList_some, Option.toList_none, List.cons_append, List.nil_append, Nat.reduceEqDiff, Nat.reduceAdd, not_false_eq_true, not_true_eq_false, and_true, true_and, and_false, false_and, or_true, true_or, or_false, false_or, and_self, or_self, Bool.false_eq_true]
    · rw [if_neg c]
      refine ⟨_, bad _ rfl c, ?_⟩
      unfold tpo
      simp (disch := omega) only [up_eq, up_ne]
      exact ⟨g3, g4, (fun y => by cases y), fun _ => ⟨trivial, trivial⟩⟩
theorem c_takeSign (h : tpX F A b t) {p x : Nat} (hx : x ≤ 125) (hp : p ≤ t) (h7 : F 1 7 = nI p) : ∃ f, dcall mX5_takeSign [.ref 1, .int (nI x)] (mk Lx F A J) = some (some (.int (zI (sg b t x p).1)), mk Lx (up F 1 f) A J) ∧ tpo F f (sg b t x p) := by
  obtain ⟨f, g1, g3, g4, g6, g7, gk, gb⟩ := c_readToken (Lx := Lx) (J := J) h hp h7
  have hkv := tKv h p
  unfold sg
  by_cases k7 : tK b t p = 7
  · rw [if_pos k7]
    rw [if_pos k7] at g1
    refine ⟨f, ?_, g3, g4, (fun y => by cases y), fun _ => gb k7⟩
    simp (disch := omega) only [CX5_takeSign, SX5_takeSign, O1, g1, zIf, Option.bind_some, Option.bind_none, if_true, if_false, zr0, zr1, one11, one01, one0, one1, Option.toList_some, Option.toList_none, List.cons_append, List.nil_append, Nat.reduceEqDiff, Nat.reduceAdd, not_false_eq_true, not_true_eq_false, and_true, true_and, and_false, false_and, or_true, true_or, or_false, false_or, and_self, or_self, Bool.false_eq_true]
  · rw [if_neg k7]
    rw [if_neg k7] at g1
    obtain ⟨g5, g8⟩ := gk k7
    by_cases c : tK b t p = x
    · rw [if_pos c]
      rw [c] at g5
      refine ⟨f, ?_, g3, g4, fun _ => ⟨g7, g8⟩, (fun y => by cases y)⟩
      simp (disch := omega) only [CX5_takeSign, SX5_takeSign, O1, G1, g1, up_eq, g5, zIt, eq_self_iff_true, Option.bind_some, Option.bind_none, if_true, if_false, zr0, zr1, one11, one01, one0, one1, Option.toList_some, Option.toList_none, List.cons_append, List.nil_append, Nat.reduceEqDiff, Nat.reduceAdd, not_false_eq_true, not_true_eq_false, and_true, true_and, and_false, false_and, or_true, true_or, or_false, false_or, and_self, or_self, Bool.false_eq_true]
    · rw [if_neg c]
      refine ⟨up (up f 8 (nI 2)) 9 (nI (tS b t p)), ?_, ?_⟩
      · simp (disch := omega) only [CX5_takeSign, SX5_takeSign, O1, G1, g1, up_eq, up_up, g5, g6, nI_eq, c, c_refuse, zIf, Option.bind_some, Option.bind_none, if_true, if_false, zr0, zr1, one11, one01, one0, one1, Option.toList_some, Option.toList_none, List.cons_append, List.nil_append, Nat.reduceEqDiff, Nat.reduceAdd, not_false_eq_true, not_true_eq_false, and_true, true_and, and_false, false_and, or_true, true_or, or_false, false_or, and_self, or_self, Bool.false_eq_true]
      · unfold tpo
        simp (disch := omega) only [up_eq, up_ne]
        exact ⟨g3, g4, (fun y => by cases y), fun _ => ⟨trivial, trivial⟩⟩
theorem c_takeNumber (h : tpX F A b t) {p m : Nat} (hm : m ≤ 99) (hp : p ≤ t) (h7 : F 1 7 = nI p) : ∃ f, dcall mX5_takeNumber [.ref 1, .int (nI m)] (mk Lx F A J) = some (some (.int (if (nm b t m p).1 = true then nI (nm b t m p).2.1 else (-4))), mk Lx (up F 1 f) A J) ∧ tpo F f (nm b t m p) := by
  obtain ⟨f, g1, g3, g4, g6, g7, gk, gb⟩ := c_readToken (Lx := Lx) (J := J) h hp h7
  have ht := h.1
  have hl := t_le (b := b) hp
  have hkv := tKv h p
  unfold nm
  by_cases k7 : tK b t p = 7
  · rw [if_pos k7]
    rw [if_pos k7] at g1
    refine ⟨f, ?_, g3, g4, (fun y => by cases y), fun _ => gb k7⟩
    simp (disch := omega) only [CX5_takeNumber, SX5_takeNumber_0, SX5_takeNumber_1, O1, g1, Option.bind_some, Option.bind_none, if_true, if_false, zr0, zr1, one11, one01, one0, one1, Option.toList_some, Option.toList_none, List.cons_append, List.nil_append, Nat.reduceEqDiff, Nat.reduceAdd, not_false_eq_true, not_true_eq_false, and_true, true_and, and_false, false_and, or_true, true_or, or_false, false_or, and_self, or_self, Bool.false_eq_true]
  · rw [if_neg k7]
    rw [if_neg k7] at g1
    obtain ⟨g5, g8⟩ := gk k7
    by_cases c : tK b t p = 2
    · rw [if_pos c]
      rw [c] at g5
      obtain ⟨q1, q2, q3⟩ := tK2 hp c
      obtain ⟨b7, b1⟩ := h.2.2 _ q1
      have val : ∀ X : Option (Option Value × dS), den mX5_takeNumber 63 [some (.ref 1), some (.int (nI m)), some (.int (nI (tV b t p))), some (.int (nI (tE b t p)))] [] (mk Lx (up F 1 f) A J) = X → dcall mX5_takeNumber [.ref 1, .int (nI m)] (mk Lx F A J) = X := fun X hX => by
        have l0 : tS b t p < tE b t p := hl.2.2.2 (by omega)
        have turn : ∀ num i, i < tE b t p → 48 ≤ b i → num ≤ 9 → ∀ X : Option (Option Value × dS), den mX5_takeNumber 34 [some (.ref 1), some (.int (nI m)), some (.int (nI (10 * num + b i - 48))), some (.int (nI (i + 1)))] [] (mk Lx (up F 1 f) A J) = X → den mX5_takeNumber 34 [some (.ref 1), some (.int (nI m)), some (.int (nI num)), some (.int (nI i))] [] (mk Lx (up F 1 f) A J) = X := fun num i hi h48 hnum X hX => by
          obtain ⟨b7', b1'⟩ := h.2.2 i (by omega)
          rw [hX5_takeNumber_34]
          simp (disch := omega) only [SX5_takeNumber_0, SX5_takeNumber_1, G1, up_eq, g7, nI_ltI, hi, nI_m, nI_add, nI_s, a10, b1', hX, Option.bind_some, Option.bind_none, if_true, if_false, zr0, zr1, one11, one01, one0, one1, Option.toList_some, Option.toList_none, List.cons_append, List.nil_append, Nat.reduceEqDiff, Nat.reduceAdd, not_false_eq_true, not_true_eq_false, and_true, true_and, and_false, false_and, or_true, true_or, or_false, false_or, and_self, or_self, Bool.false_eq_true]
        have last : den mX5_takeNumber 34 [some (.ref 1), some (.int (nI m)), some (.int (nI (tV b t p))), some (.int (nI (tE b t p)))] [] (mk Lx (up F 1 f) A J) = X := by
          have ne : ¬ tE b t p < tE b t p := Nat.lt_irrefl _
          rw [hX5_takeNumber_34]
          simp (disch := omega) only [SX5_takeNumber_0, SX5_takeNumber_1] at hX
          simp (disch := omega) only [SX5_takeNumber_0, SX5_takeNumber_1, G1, up_eq, g7, nI_ltI, ne, Option.bind_some, Option.bind_none, if_true, if_false, zr0, zr1, one11, one01, one0, one1, Option.toList_some, Option.toList_none, List.cons_append, List.nil_append, Nat.reduceEqDiff, Nat.reduceAdd, not_false_eq_true, not_true_eq_false, and_true, true_and, and_false, false_and, or_true, true_or, or_false, false_or, and_self, or_self, Bool.false_eq_true]
          exact hX
        have start : den mX5_takeNumber 34 [some (.ref 1), some (.int (nI m)), some (.int (nI 0)), some (.int (nI (tS b t p)))] [] (mk Lx (up F 1 f) A J) = X := by
          apply turn 0 _ l0 q2.1 (by omega)
          unfold tV at last
          rcases q3 with e | ⟨e, e48, e57⟩
          · rw [if_pos (by omega), e] at last
            rw [show 10 * 0 + b (tS b t p) - 48 = b (tS b t p) - 48 by omega]
            exact last
          · apply turn _ _ (by omega) e48 (by omega)
            rw [if_neg (by omega), e] at last
            rw [show 10 * (10 * 0 + b (tS b t p) - 48) + b (tS b t p + 1) - 48 = 10 * (b (tS b t p) - 48) + (b (tS b t p + 1) - 48) by omega]
            exact last
        simp (disch := omega) only [CX5_takeNumber, SX5_takeNumber_0, SX5_takeNumber_1, O1, G1, g1, up_eq, g5, g6, start, eq_self_iff_true, Option.bind_some, Option.bind_none, if_true, if_false, zr0, zr1, one11, one01, one0, one1, Option.toList_some, Option.toList_none, List.cons_append, List.nil_append, Nat.reduceEqDiff, Nat.reduceAdd, not_false_eq_true, not_true_eq_false, and_true, true_and, and_false, false_and, or_true, true_or, or_false, false_or, and_self, or_self, Bool.false_eq_true]
      have hv : tV b t p ≤ 99 := by
        unfold tV
        split <;> omega
      by_cases w : tV b t p ≤ m
      · rw [if_pos w]
        have w1 : ¬ m < tV b t p := by omega
        refine ⟨f, val _ ?_, g3, g4, fun _ => ⟨g7, g8⟩, (fun y => by cases y)⟩
        simp (disch := omega) only [SX5_takeNumber_0, SX5_takeNumber_1, nI_ltI, w1, eq_self_iff_true, Option.bind_some, Option.bind_none, if_true, if_false, zr0, zr1, one11, one01, one0, one1, Option.toList_some, Option.toList_none, List.cons_append, List.nil_append, Nat.reduceEqDiff, Nat.reduceAdd, not_false_eq_true, not_true_eq_false, and_true, true_and, and_false, false_and, or_true, true_or, or_false, false_or, and_self, or_self, Bool.false_eq_true]
      · rw [if_neg w]
        have w1 : m < tV b t p := by omega
        refine ⟨up (up f 8 (nI 3)) 9 (nI (tS b t p)), val _ ?_, ?_⟩
        · simp (disch := omega) only [SX5_takeNumber_0, SX5_takeNumber_1, O1, nI_ltI, w1, c_refuse, up_eq, up_up, g6, Option.bind_some, Option.bind_none, if_true, if_false, zr0, zr1, one11, one01, one0, one1, Option.toList_some, Option.toList_none, List.cons_append, List.nil_append, Nat.reduceEqDiff, Nat.reduceAdd, not_false_eq_true, not_true_eq_false, and_true, true_and, and_false, false_and, or_true, true_or, or_false, false_or, and_self, or_self, Bool.false_eq_true]
        · unfold tpo
          simp (disch := omega) only [up_eq, up_ne]
          exact ⟨g3, g4, (fun y => by cases y), fun _ => ⟨trivial, trivial⟩⟩
    · rw [if_neg c]
      refine ⟨up (up f 8 (nI 2)) 9 (nI (tS b t p)), ?_, ?_⟩
      · simp (disch := omega) only [CX5_takeNumber, SX5_takeNumber_0, SX5_takeNumber_1, O1, G1, g1, up_eq, up_up, g5, g6, nI_eq, c, c_refuse, Option.bind_some, Option.bind_none, if_true, if_false, zr0, zr1, one11, one01, one0, one1, Option.toList_some, Option.toList_none, List.cons_append, List.nil_append, Nat.reduceEqDiff, Nat.reduceAdd, not_false_eq_true, not_true_eq_false, and_true, true_and, and_false, false_and, or_true, true_or, or_false, false_or, and_self, or_self, Bool.false_eq_true]
      · unfold tpo
        simp (disch := omega) only [up_eq, up_ne]
        exact ⟨g3, g4, (fun y => by cases y), fun _ => ⟨trivial, trivial⟩⟩
end TAKE6
