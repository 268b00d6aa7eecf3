/-! the reference reads tokens -/
def tpM (F A : Nat → Nat → Int32) (b : Nat → Nat) (t : Nat) : Prop := t ≤ 320 ∧ F 56 5 = nI t ∧ ∀ k, k < t → b k ≤ 127 ∧ A 61 k = nI (b k)
def bv (b : Nat → Nat) (t p : Nat) : Int32 := if p < t then nI (b p) else (-1)
def sK (k : Nat) : Nat := if k = 59 then 3 else if k = 123 then 4 else if k = 125 then 5 else k
/-- numbers, two figures at most -/
def dgv (b : Nat → Nat) (t s : Nat) : Nat → Nat → Nat → Nat
  | 0, _, v => v
  | k + 1, q, v => if q < t ∧ 48 ≤ b q ∧ b q ≤ 57 then dgv b t s k (q + 1) (if q - s < 2 then 10 * v + b q - 48 else v) else v
theorem dgv_V {b : Nat → Nat} {t p : Nat} (hp : p ≤ t) (h : tK b t p = 2) : dgv b t (tS b t p) (t - tS b t p) (tS b t p) 0 = tV b t p := by
  obtain ⟨q1, q2, q3⟩ := tK2 hp h
  have hl := t_le (b := b) hp
  have he : tE b t p = sp b t 48 57 (tS b t p) := by
    have : ¬ t ≤ tS b t p := by omega
    unfold tE
    rw [if_neg this, if_neg (by omega), if_pos q2]
  have st : ∀ k q v, ¬ (q < t ∧ 48 ≤ b q ∧ b q ≤ 57) → dgv b t (tS b t p) k q v = v := fun k q v hq => by
    cases k with
    | zero => rfl
    | succ k => rw [dgv, if_neg hq]
  have fin : ∀ q, sp b t 48 57 q = q → ¬ (q < t ∧ 48 ≤ b q ∧ b q ≤ 57) := fun q e z => by
    have := sp_lt z
    omega
  obtain ⟨k, hk⟩ : ∃ k, t - tS b t p = k + 1 := ⟨t - tS b t p - 1, by omega⟩
  rw [hk, dgv, if_pos ⟨q1, q2⟩, if_pos (by omega)]
  have e1 : sp b t 48 57 (tS b t p) = sp b t 48 57 (tS b t p + 1) := sp_t ⟨q1, q2⟩
  unfold tV
  rcases q3 with e | ⟨e, e48, e57⟩
  · rw [if_pos (by omega), st _ _ _ (fin _ (by omega))]
    omega
  · rw [if_neg (by omega)]
    have q4 : tS b t p + 1 < t := by omega
    obtain ⟨j, hj⟩ : ∃ j, k = j + 1 := ⟨k - 1, by omega⟩
    have e2 : sp b t 48 57 (tS b t p + 1) = sp b t 48 57 (tS b t p + 1 + 1) := sp_t ⟨q4, e48, e57⟩
    rw [hj, dgv, if_pos ⟨q4, e48, e57⟩, if_pos (by omega), st _ _ _ (fin _ (by omega))]
    omega
section READS
variable {Lx : Nat} {F A : Nat → Nat → Int32} {J : Nat → Nat → Int64} {b : Nat → Nat} {t : Nat}
theorem tpM.fr (h : tpM F A b t) {f : Nat → Int32} (h5 : f 5 = nI t) : tpM (up F 56 f) A b t := ⟨h.1, by rw [up_eq]; exact h5, h.2.2⟩
theorem c_byteAt (h : tpM F A b t) {p : Nat} (hp : p < 2 ^ 30) : dcall mX7_byteAt [.ref 56, .int (nI p)] (mk Lx F A J) = some (some (.int (bv b t p)), mk Lx F A J) := by
  obtain ⟨ht, h5, h61⟩ := h
  unfold bv
  by_cases hlt : p < t
  · rw [if_pos hlt]
    simp (disch := omega) only [CX7_byteAt, SX7_byteAt, G56, leN, h5, nI_ltI, hlt, a61, (h61 p hlt).2, Option.bind_some, Option.bind_none, if_true, if_false, zr0, zr1, one11, one01, one0, one1, Option.toList_some, Option.toList_none, List.cons_append, List.nil_append, Nat.reduceEqDiff, Nat.reduceAdd, not_false_eq_true, not_true_eq_false, and_true, true_and, and_false, false_and, or_true, true_or, or_false, false_or, and_self, or_self, Bool.false_eq_true]
  · rw [if_neg hlt]
    simp (disch := omega) only [CX7_byteAt, SX7_byteAt, G56, h5, nI_ltI, hlt, Option.bind_some, Option.bind_none, if_true, if_false, zr0, zr1, one11, one01, one0, one1, Option.toList_some, Option.toList_none, List.cons_append, List.nil_append, Nat.reduceEqDiff, Nat.reduceAdd, not_false_eq_true, not_true_eq_false, and_true, true_and, and_false, false_and, or_true, true_or, or_false, false_or, and_self, or_self, Bool.false_eq_true]
theorem c_reqN (x : Int32) (h : F 56 10 = nI 0) : dcall mX7_requires [.ref 56, .int (nI 0), .int x] (mk Lx F A J) = some (none, mk Lx (up F 56 (up (up (F 56) 10 x) 11 (F 56 7))) A J) := by
  simp (disch := omega) only [CX7_requires, SX7_requires, G56, P56, h, up_eq, up_ne, up_up, Option.bind_some, Option.bind_none, if_true, if_false, zr0, zr1, one11, one01, one0, one1, Option.toList_some, Option.toList_none, List.cons_append, List.nil_append, Nat.reduceEqDiff, Nat.reduceAdd, not_false_eq_true, not_true_eq_false, and_true, true_and, and_false, false_and, or_true, true_or, or_false, false_or, and_self, or_self, Bool.false_eq_true]
theorem c_reqY (x : Int32) : dcall mX7_requires [.ref 56, .int (nI 1), .int x] (mk Lx F A J) = some (none, mk Lx F A J) := by
  simp (disch := omega) only [CX7_requires, SX7_requires, Option.bind_some, Option.bind_none, if_true, if_false, zr0, zr1, one11, one01, one0, one1, Option.toList_some, Option.toList_none, List.cons_append, List.nil_append, Nat.reduceEqDiff, Nat.reduceAdd, not_false_eq_true, not_true_eq_false, and_true, true_and, and_false, false_and, or_true, true_or, or_false, false_or, and_self, or_self, Bool.false_eq_true]
theorem c_reqF (x y : Int32) {e : Nat} (he : 0 < e) (he2 : e < 10) (h : F 56 10 = nI e) : dcall mX7_requires [.ref 56, .int y, .int x] (mk Lx F A J) = some (none, mk Lx F A J) := by
  have e0 : ¬ e = 0 := by omega
  by_cases y0 : y = 0
  · simp (disch := omega) only [CX7_requires, SX7_requires, G56, h, nI_e0, e0, y0, eq_self_iff_true, Option.bind_some, Option.bind_none, if_true, if_false, zr0, zr1, one11, one01, one0, one1, Option.toList_some, Option.toList_none, List.cons_append, List.nil_append, Nat.reduceEqDiff, Nat.reduceAdd, not_false_eq_true, not_true_eq_false, and_true, true_and, and_false, false_and, or_true, true_or, or_false, false_or, and_self, or_self, Bool.false_eq_true]
  · simp (disch := omega) only [CX7_requires, SX7_requires, y0, Option.bind_some, Option.bind_none, if_true, if_false, zr0, zr1, one11, one01, one0, one1, Option.toList_some, Option.toList_none, List.cons_append, List.nil_append, Nat.reduceEqDiff, Nat.reduceAdd, not_false_eq_true, not_true_eq_false, and_true, true_and, and_false, false_and, or_true, true_or, or_false, false_or, and_self, or_self, Bool.false_eq_true]
theorem c_readsF {e : Nat} (he : 0 < e) (he2 : e < 10) (h : F 56 10 = nI e) : dcall mX7_reads [.ref 56] (mk Lx F A J) = some (none, mk Lx F A J) := by
  obtain ⟨r0, r1, r4, r7, -⟩ := SX7_reads_0
  simp (disch := omega) only [CX7_reads, r0, r1, r4, r7, G56, h, nI_g0, he, Option.bind_some, Option.bind_none, if_true, if_false, zr0, zr1, one11, one01, one0, one1, Option.toList_some, Option.toList_none, List.cons_append, List.nil_append, Nat.reduceEqDiff, Nat.reduceAdd, not_false_eq_true, not_true_eq_false, and_true, true_and, and_false, false_and, or_true, true_or, or_false, false_or, and_self, or_self, Bool.false_eq_true]
theorem l_sp8 (h : tpM F A b t) {f : Nat → Int32} (h5 : f 5 = nI t) (l1 : Option Value) {X : Option (Option Value × dS)} : ∀ k q, q + k = t → den mX7_reads 34 [some (.ref 56), l1] [] (mk Lx (up F 56 (up f 6 (nI (sp b t 32 32 q)))) A J) = X → den mX7_reads 8 [some (.ref 56), l1] [] (mk Lx (up F 56 (up f 6 (nI q))) A J) = X := by
  obtain ⟨-, -, -, -, r9, r10, r13, r16, r18, r21, r22, r23, r26, r27, r28, r31, -⟩ := SX7_reads_0
  have ht := h.1
  intro k
  induction k with
  | zero =>
    intro q hq hX
    have hb := c_byteAt (Lx := Lx) (J := J) (h.fr (f := up f 6 (nI q)) (by rw [up_ne _ _ (by omega)]; exact h5)) (p := q) (by omega)
    unfold bv at hb
    rw [if_neg (by omega)] at hb
    rw [sp_f (by omega)] at hX
    have m1 : ((-1 : Int32) = nI 32) ↔ False := by decide
    rw [hX7_reads_8]
    simp (disch := omega) only [r9, r10, r13, r16, r18, G56, O56, up_eq, hb, m1, hX, Option.bind_some, Option.bind_none, if_true, if_false, zr0, zr1, one11, one01, one0, one1, Option.toList_some, Option.toList_none, List.cons_append, List.nil_append, Nat.reduceEqDiff, Nat.reduceAdd, not_false_eq_true, not_true_eq_false, and_true, true_and, and_false, false_and, or_true, true_or, or_false, false_or, and_self, or_self, Bool.false_eq_true]
  | succ k ih =>
    intro q hq hX
    have hlt : q < t := by omega
    have hb := c_byteAt (Lx := Lx) (J := J) (h.fr (f := up f 6 (nI q)) (by rw [up_ne _ _ (by omega)]; exact h5)) (p := q) (by omega)
    unfold bv at hb
    rw [if_pos hlt] at hb
    have b7 := (h.2.2 q hlt).1
    by_cases z : b q = 32
    · rw [sp_t ⟨hlt, by omega, by omega⟩] at hX
      have e := ih (q + 1) (by omega) hX
      rw [z] at hb
      rw [hX7_reads_8]
      simp (disch := omega) only [r9, r10, r13, r16, r18, r21, r22, r23, r26, r27, r28, r31, G56, O56, P56, up_eq, up_up, hb, nI_add, e, eq_self_iff_true, Option.bind_some, Option.bind_none, if_true, if_false, zr0, zr1, one11, one01, one0, one1, Option.toList_some, Option.toList_none, List.cons_append, List.nil_append, Nat.reduceEqDiff, Nat.reduceAdd, not_false_eq_true, not_true_eq_false, and_true, true_and, and_false, false_and, or_true, true_or, or_false, false_or, and_self, or_self, Bool.false_eq_true]
    · rw [sp_f (by omega)] at hX
      rw [hX7_reads_8]
      simp (disch := omega) only [r9, r10, r13, r16, r18, G56, O56, up_eq, hb, nI_eq, z, hX, Option.bind_some, Option.bind_none, if_true, if_false, zr0, zr1, one11, one01, one0, one1, Option.toList_some, Option.toList_none, List.cons_append, List.nil_append, Nat.reduceEqDiff, Nat.reduceAdd, not_false_eq_true, not_true_eq_false, and_true, true_and, and_false, false_and, or_true, true_or, or_false, false_or, and_self, or_self, Bool.false_eq_true]
theorem l_nm82 (h : tpM F A b t) {f : Nat → Int32} (h5 : f 5 = nI t) (l1 : Option Value) : ∀ k q, q + k = t → den mX7_reads 82 [some (.ref 56), l1] [] (mk Lx (up F 56 (up f 6 (nI q))) A J) = some (none, mk Lx (up F 56 (up f 6 (nI (sp b t 97 122 q)))) A J) := by
  have ht := h.1
  intro k
  induction k with
  | zero =>
    intro q hq
    have hb := c_byteAt (Lx := Lx) (J := J) (h.fr (f := up f 6 (nI q)) (by rw [up_ne _ _ (by omega)]; exact h5)) (p := q) (by omega)
    unfold bv at hb
    rw [if_neg (by omega)] at hb
    have m1 : ¬ (nI 97 ≤ (-1 : Int32) ∧ (-1 : Int32) ≤ nI 122) := by decide
    rw [sp_f (by omega), hX7_reads_82]
    simp (disch := omega) only [SX7_reads_1, SX7_reads_3, G56, O56, up_eq, hb, c_in, w64N, w64le, bI_0, m1, Option.bind_some, Option.bind_none, if_true, if_false, zr0, zr1, one11, one01, one0, one1, Option.toList_some, Option.toList_none, List.cons_append, List.nil_append, Nat.reduceEqDiff, Nat.reduceAdd, not_false_eq_true, not_true_eq_false, and_true, true_and, and_false, false_and, or_true, true_or, or_false, false_or, and_self, or_self, Bool.false_eq_true]
  | succ k ih =>
    intro q hq
    have hlt : q < t := by omega
    have hb := c_byteAt (Lx := Lx) (J := J) (h.fr (f := up f 6 (nI q)) (by rw [up_ne _ _ (by omega)]; exact h5)) (p := q) (by omega)
    unfold bv at hb
    rw [if_pos hlt] at hb
    have b7 := (h.2.2 q hlt).1
    by_cases z : 97 ≤ b q ∧ b q ≤ 122
    · have e := ih (q + 1) (by omega)
      rw [sp_t ⟨hlt, z⟩, hX7_reads_82]
      simp (disch := omega) only [SX7_reads_1, G56, O56, P56, up_eq, up_up, hb, c_in, w64N, w64le, nI_leI, bI_0, z, nI_add, e, Option.bind_some, Option.bind_none, if_true, if_false, zr0, zr1, one11, one01, one0, one1, Option.toList_some, Option.toList_none, List.cons_append, List.nil_append, Nat.reduceEqDiff, Nat.reduceAdd, not_false_eq_true, not_true_eq_false, and_true, true_and, and_false, false_and, or_true, true_or, or_false, false_or, and_self, or_self, Bool.false_eq_true]
    · rw [sp_f (fun y => z y.2), hX7_reads_82]
      simp (disch := omega) only [SX7_reads_1, SX7_reads_3, G56, O56, up_eq, hb, c_in, w64N, w64le, nI_leI, bI_0, z, Option.bind_some, Option.bind_none, if_true, if_false, zr0, zr1, one11, one01, one0, one1, Option.toList_some, Option.toList_none, List.cons_append, List.nil_append, Nat.reduceEqDiff, Nat.reduceAdd, not_false_eq_true, not_true_eq_false, and_true, true_and, and_false, false_and, or_true, true_or, or_false, false_or, and_self, or_self, Bool.false_eq_true]
theorem l_dg140 (h : tpM F A b t) {f : Nat → Int32} (h5 : f 5 = nI t) {s : Nat} (h7 : f 7 = nI s) (hs : s ≤ t) (l1 : Option Value) {X : Option (Option Value × dS)} : ∀ k q v, q + k = t → s ≤ q → den mX7_reads 217 [some (.ref 56), l1] [] (mk Lx (up F 56 (up (up f 9 (nI (dgv b t s k q v))) 6 (nI (sp b t 48 57 q)))) A J) = X → den mX7_reads 140 [some (.ref 56), l1] [] (mk Lx (up F 56 (up (up f 9 (nI v)) 6 (nI q))) A J) = X := by
  have ht := h.1
  obtain ⟨s170, s171, s172, s175, s177, s178, s181, s182, s183, s184, s187, s190, s191, s193, s194, s197, s198, s201, s204, s205, s206, s209, s210, s211, s214, -⟩ := SX7_reads_2
  intro k
  induction k with
  | zero =>
    intro q v hq hsq hX
    have hb := c_byteAt (Lx := Lx) (J := J) (h.fr (f := up (up f 9 (nI v)) 6 (nI q)) (by simp (disch := omega) only [up_ne]; exact h5)) (p := q) (by omega)
    unfold bv at hb
    rw [if_neg (by omega)] at hb
    have m1 : ¬ (nI 48 ≤ (-1 : Int32) ∧ (-1 : Int32) ≤ nI 57) := by decide
    rw [sp_f (by omega), dgv] at hX
    rw [hX7_reads_140]
    simp (disch := omega) only [SX7_reads_1, G56, O56, up_eq, hb, c_in, w64N, w64le, bI_0, m1, hX, Option.bind_some, Option.bind_none, if_true, if_false, zr0, zr1, one11, one01, one0, one1, Option.toList_some, Option.toList_none, List.cons_append, List.nil_append, Nat.reduceEqDiff, Nat.reduceAdd, not_false_eq_true, not_true_eq_false, and_true, true_and, and_false, false_and, or_true, true_or, or_false, false_or, and_self, or_self, Bool.false_eq_true]
  | succ k ih =>
    intro q v hq hsq hX
    have hlt : q < t := by omega
    have hb := c_byteAt (Lx := Lx) (J := J) (h.fr (f := up (up f 9 (nI v)) 6 (nI q)) (by simp (disch := omega) only [up_ne]; exact h5)) (p := q) (by omega)
    unfold bv at hb
    rw [if_pos hlt] at hb
    have b7 := (h.2.2 q hlt).1
    have cm : ∀ x y : Int32, up (up (up f 9 x) 6 (nI q)) 9 y = up (up f 9 y) 6 (nI q) := fun x y => by
      funext i
      by_cases z9 : i = 9
      · subst z9; simp (disch := omega) only [up_eq, up_ne]
      · rw [up_ne _ _ z9]
        by_cases z6 : i = 6
        · subst z6; simp only [up_eq]
        · simp (disch := omega) only [up_ne]
    by_cases z : 48 ≤ b q ∧ b q ≤ 57
    · rw [sp_t ⟨hlt, z⟩, dgv, if_pos ⟨hlt, z⟩] at hX
      have e := ih (q + 1) _ (by omega) (by omega) hX
      by_cases w : q - s < 2
      · rw [if_pos w] at e
        rw [hX7_reads_140]
        simp (disch := omega) only [SX7_reads_1, s170, s171, s172, s175, s177, s178, s181, s182, s183, s184, s187, s190, s191, s193, s194, s201, s204, s205, s206, s209, s210, s211, s214, G56, O56, P56, up_eq, up_ne, up_up, hb, h7, c_in, w64N, w64le, nI_leI, bI_0, z, nI_s, nI_ltI, w, nI_m, nI_add, cm, e, Option.bind_some, Option.bind_none, if_true, if_false, zr0, zr1, one11, one01, one0, one1, Option.toList_some, Option.toList_none, List.cons_append, List.nil_append, Nat.reduceEqDiff, Nat.reduceAdd, not_false_eq_true, not_true_eq_false, and_true, true_and, and_false, false_and, or_true, true_or, or_false, false_or, and_self, or_self, Bool.false_eq_true]
      · rw [if_neg w] at e
        rw [hX7_reads_140]
        simp (disch := omega) only [SX7_reads_1, s170, s171, s172, s197, s198, s201, s204, s205, s206, s209, s210, s211, s214, G56, O56, P56, up_eq, up_ne, up_up, hb, h7, c_in, w64N, w64le, nI_leI, bI_0, z, nI_s, nI_ltI, w, nI_add, cm, e, Option.bind_some, Option.bind_none, if_true, if_false, zr0, zr1, one11, one01, one0, one1, Option.toList_some, Option.toList_none, List.cons_append, List.nil_append, Nat.reduceEqDiff, Nat.reduceAdd, not_false_eq_true, not_true_eq_false, and_true, true_and, and_false, false_and, or_true, true_or, or_false, false_or, and_self, or_self, Bool.false_eq_true]
    · rw [sp_f (fun y => z y.2), dgv, if_neg (fun y => z y.2)] at hX
      rw [hX7_reads_140]
      simp (disch := omega) only [SX7_reads_1, G56, O56, up_eq, hb, c_in, w64N, w64le, nI_leI, bI_0, z, hX, Option.bind_some, Option.bind_none, if_true, if_false, zr0, zr1, one11, one01, one0, one1, Option.toList_some, Option.toList_none, List.cons_append, List.nil_append, Nat.reduceEqDiff, Nat.reduceAdd, not_false_eq_true, not_true_eq_false, and_true, true_and, and_false, false_and, or_true, true_or, or_false, false_or, and_self, or_self, Bool.false_eq_true]
end READS
