section CPY
variable {Lx : Nat} {F A : Nat → Nat → Int32} {J : Nat → Nat → Int64}
theorem m_dalen {q n : Nat} (hN : q < dN) (hq : ∀ f a l, dcell Lx q f a l = .inl (0, n, .inl a)) : dalen (mk Lx F A J) q = some (nI n) := by
  have e : mk Lx F A J q = .inl (0, n, .inl (A q)) := hq _ _ _
  unfold dalen dtag
  rw [if_pos hN, e]
  rfl
theorem l_fill {q n : Nat} (hN : q < dN) (hq : ∀ f a l, dcell Lx q f a l = .inl (0, n, .inl a)) (hn : n < 2 ^ 30) (v : Int32) : ∀ k i (A : Nat → Nat → Int32), i + k = n → den mJ7_fill_53178 5 [some (.ref q), some (.int v), some (.int (nI i)), some (.int (nI n))] [] (mk Lx F A J) = some (none, mk Lx F (up A q (fun j => if i ≤ j ∧ j < n then v else A q j)) J) := by
  intro k
  induction k with
  | zero =>
    intro i A hi
    have : ¬ i < n := by omega
    rw [hJ7_fill_53178_5]
    have e : (fun j => if i ≤ j ∧ j < n then v else A q j) = A q := by
      funext j
      rw [if_neg (by omega)]
    simp (disch := omega) only [SJ7_fill_53178, nI_ltI, this, e, up_id, Option.bind_some, Option.bind_none, if_true, if_false, zr0, zr1, one11, one01, one0, one1, Option.toList_some, Option.toList_none, List.cons_append, List.nil_append, Nat.reduceEqDiff, Nat.reduceAdd, not_false_eq_true, not_true_eq_false, and_true, true_and, and_false, false_and, or_true, true_or, or_false, false_or, and_self, or_self, Bool.false_eq_true]
  | succ k ih =>
    intro i A hi
    have hlt : i < n := by omega
    rw [hJ7_fill_53178_5]
    simp (disch := omega) only [SJ7_fill_53178, nI_ltI, hlt, m_ast hN hq hlt, nI_add, Option.bind_some, Option.bind_none, if_true, if_false, zr0, zr1, one11, one01, one0, one1, Option.toList_some, Option.toList_none, List.cons_append, List.nil_append, Nat.reduceEqDiff, Nat.reduceAdd, not_false_eq_true, not_true_eq_false, and_true, true_and, and_false, false_and, or_true, true_or, or_false, false_or, and_self, or_self, Bool.false_eq_true]
    rw [ih (i + 1) _ (by omega), up_up]
    congr 4
    funext j
    rw [up_eq]
    by_cases e : j = i
    · subst e
      rw [if_neg (by omega), up_eq, if_pos (by omega)]
    · rw [up_ne _ _ e]
      by_cases e2 : i ≤ j ∧ j < n
      · rw [if_pos (by omega), if_pos e2]
      · rw [if_neg (by omega), if_neg e2]
theorem c_fill {q n : Nat} (hN : q < dN) (hq : ∀ f a l, dcell Lx q f a l = .inl (0, n, .inl a)) (hn : n < 2 ^ 30) (v : Int32) : dcall mJ7_fill_53178 [.ref q, .int v] (mk Lx F A J) = some (none, mk Lx F (up A q (fun j => if j < n then v else A q j)) J) := by
  simp only [CJ7_fill_53178, SJ7_fill_53178, m_dalen hN hq, Option.bind_some, Option.bind_none, if_true, if_false, zr0, zr1, one11, one01, one0, one1, Option.toList_some, Option.toList_none, List.cons_append, List.nil_append, Nat.reduceEqDiff, Nat.reduceAdd, not_false_eq_true, not_true_eq_false, and_true, true_and, and_false, false_and, or_true, true_or, or_false, false_or, and_self, or_self, Bool.false_eq_true]
  rw [l_fill hN hq hn v n 0 A (by omega)]
  simp only [Nat.zero_le, true_and]
theorem c_becomeLike {P Q : Nat} (hP : isP P) (hQ : isP Q) (hPQ : P ≠ Q) : ∃ F' A' : Nat → Nat → Int32, dcall mX3_becomeLike [.ref P, .ref Q] (mk Lx F A J) = some (none, mk Lx F' A' J) ∧ (∀ q, q ≠ P → F' q = F q) ∧ (∀ q, (q < P + 1 ∨ P + 7 < q) → A' q = A q) ∧ ∀ (n : Nat) (c : Nat → Nat → Nat) (ws : Nat → Nat) (ou : Nat), n ≤ 24 → nif c n ≤ 6 → XP F A Q n c ws ou → XP F' A' P n c ws ou := by
  have far : ∀ d e, d ≤ 7 → e ≤ 7 → Q + d ≠ P + e := by
    intro d e h1 h2
    rcases hP with rfl | rfl | rfl | rfl <;> rcases hQ with rfl | rfl | rfl | rfl <;> omega
  have farF : Q ≠ P := fun z => hPQ z.symm
  refine ⟨up F P (up (up (up (F P) 7 (F Q 7)) 8 (F Q 8)) 9 (F Q 9)), up (up (up (up (up (up (up A (P + 1) (fun j => if j < 24 then A (Q + 1) j else A (P + 1) j)) (P + 2) (fun j => if j < 24 then A (Q + 2) j else A (P + 2) j)) (P + 3) (fun j => if j < 24 then A (Q + 3) j else A (P + 3) j)) (P + 4) (fun j => if j < 24 then A (Q + 4) j else A (P + 4) j)) (P + 5) (fun j => if j < 24 then A (Q + 5) j else A (P + 5) j)) (P + 6) (fun j => if j < 6 then A (Q + 6) j else A (P + 6) j)) (P + 7) (fun j => if j < 6 then A (Q + 7) j else A (P + 7) j), ?_, ?_, ?_, ?_⟩
  · have f1 := far 1
    have f2 := far 2
    have f3 := far 3
    have f4 := far 4
    have f5 := far 5
    have f6 := far 6
    have f7 := far 7
    simp (disch := first | omega | exact f1 _ (by omega) (by omega) | exact f2 _ (by omega) (by omega) | exact f3 _ (by omega) (by omega) | exact f4 _ (by omega) (by omega) | exact f5 _ (by omega) (by omega) | exact f6 _ (by omega) (by omega) | exact f7 _ (by omega) (by omega)) only [CX3_becomeLike, SX3_becomeLike_0, SX3_becomeLike_1, Gp hP, Gp hQ, cpP hQ hP, Pp hP, up_eq, up_ne, up_up, Option.bind_some, Option.bind_none, if_true, if_false, zr0, zr1, one11, one01, one0, one1, Option.toList_some, Option.toList_none, List.cons_append, List.nil_append, Nat.reduceEqDiff, Nat.reduceAdd, not_false_eq_true, not_true_eq_false, and_true, true_and, and_false, false_and, or_true, true_or, or_false, false_or, and_self, or_self, Bool.false_eq_true]
  · intro q hq
    exact up_ne _ _ hq
  · intro q hq
    simp (disch := omega) only [up_ne]
  · intro n c ws ou hn hn6 h
    obtain ⟨h1, h2, h3, h4, h5, h6⟩ := h
    refine ⟨by simp (disch := omega) only [up_eq, up_ne]; exact h1, by simp (disch := omega) only [up_eq, up_ne]; exact h2, by simp (disch := omega) only [up_eq, up_ne]; exact h3, fun i hi => ?_, fun j hj => ?_, fun j hj => ?_⟩
    · obtain ⟨x0, x1, x2, x3, x4⟩ := h4 i hi
      simp (disch := omega) only [up_eq, up_ne]
      rw [if_pos (by omega), if_pos (by omega), if_pos (by omega), if_pos (by omega), if_pos (by omega)]
      exact ⟨x0, x1, x2, x3, x4⟩
    · simp (disch := omega) only [up_eq, up_ne]
      rw [if_pos (by omega)]
      exact h5 j hj
    · simp (disch := omega) only [up_eq, up_ne]
      rw [if_pos (by omega)]
      exact h6 j hj
theorem l_keepM {k : Nat} (hk : k < 2) (had : Int32) : ∀ d t (A : Nat → Nat → Int32), t + d = 128 → ∃ f : Nat → Int32, den mX7_keep 31 [some (.ref 56), some (.int (nI k)), some (.int had), some (.int (nI t))] [] (mk Lx F A J) = some (some (.int had), mk Lx F (up A 58 f) J) ∧ (∀ s, t ≤ s → s < 128 → f (128 * k + s) = A 57 s) ∧ ∀ s, (s < 128 * k + t ∨ 128 * k + 128 ≤ s) → f s = A 58 s := by
  intro d
  induction d with
  | zero =>
    intro t A ht
    have : ¬ t < 128 := by omega
    refine ⟨A 58, ?_, fun s h1 h2 => absurd h2 (by omega), fun s _ => rfl⟩
    rw [hX7_keep_31]
    simp (disch := omega) only [SX7_keep, nI_ltI, this, up_id, Option.bind_some, Option.bind_none, if_true, if_false, zr0, zr1, one11, one01, one0, one1, Option.toList_some, Option.toList_none, List.cons_append, List.nil_append, Nat.reduceEqDiff, Nat.reduceAdd, not_false_eq_true, not_true_eq_false, and_true, true_and, and_false, false_and, or_true, true_or, or_false, false_or, and_self, or_self, Bool.false_eq_true]
  | succ d ih =>
    intro t A ht
    have hlt : t < 128 := by omega
    obtain ⟨f, h1, h2, h3⟩ := ih (t + 1) (up A 58 (up (A 58) (128 * k + t) (A 57 t))) (by omega)
    refine ⟨f, ?_, fun s g1 g2 => ?_, fun s g => ?_⟩
    · rw [hX7_keep_31]
      simp (disch := omega) only [SX7_keep, G56, leN, a57, w58, nI_ltI, hlt, nI_m, nI_add, Option.bind_some, Option.bind_none, if_true, if_false, zr0, zr1, one11, one01, one0, one1, Option.toList_some, Option.toList_none, List.cons_append, List.nil_append, Nat.reduceEqDiff, Nat.reduceAdd, not_false_eq_true, not_true_eq_false, and_true, true_and, and_false, false_and, or_true, true_or, or_false, false_or, and_self, or_self, Bool.false_eq_true]
      rw [h1, up_up]
    · by_cases e : s = t
      · subst e
        rw [h3 _ (by omega), up_eq, up_eq]
      · rw [h2 s (by omega) g2, up_ne _ _ (by decide)]
    · rw [h3 s (by omega), up_eq, up_ne _ _ (by omega)]
theorem l_backM {k : Nat} (hk : k < 2) : ∀ d t (A : Nat → Nat → Int32), t + d = 128 → ∃ f : Nat → Int32, den mX7_back 26 [some (.ref 56), some (.int (nI k)), some (.int (nI t))] [] (mk Lx F A J) = some (some (.int (f 120)), mk Lx (up F 56 (up (F 56) 20 (nI 0))) (up A 57 f) J) ∧ (∀ s, t ≤ s → s < 128 → f s = A 58 (128 * k + s)) ∧ ∀ s, (s < t ∨ 128 ≤ s) → f s = A 57 s := by
  intro d
  induction d with
  | zero =>
    intro t A ht
    have : ¬ t < 128 := by omega
    refine ⟨A 57, ?_, fun s h1 h2 => absurd h2 (by omega), fun s _ => rfl⟩
    rw [hX7_back_26]
    simp (disch := omega) only [SX7_back_0, SX7_back_1, G56, P56, leN, a57, nI_ltI, this, up_id, Option.bind_some, Option.bind_none, if_true, if_false, zr0, zr1, one11, one01, one0, one1, Option.toList_some, Option.toList_none, List.cons_append, List.nil_append, Nat.reduceEqDiff, Nat.reduceAdd, not_false_eq_true, not_true_eq_false, and_true, true_and, and_false, false_and, or_true, true_or, or_false, false_or, and_self, or_self, Bool.false_eq_true]
  | succ d ih =>
    intro t A ht
    have hlt : t < 128 := by omega
    obtain ⟨f, h1, h2, h3⟩ := ih (t + 1) (up A 57 (up (A 57) t (A 58 (128 * k + t)))) (by omega)
    refine ⟨f, ?_, fun s g1 g2 => ?_, fun s g => ?_⟩
    · rw [hX7_back_26]
      simp (disch := omega) only [SX7_back_0, SX7_back_1, G56, leN, a58, w57, nI_ltI, hlt, nI_m, nI_add, Option.bind_some, Option.bind_none, if_true, if_false, zr0, zr1, one11, one01, one0, one1, Option.toList_some, Option.toList_none, List.cons_append, List.nil_append, Nat.reduceEqDiff, Nat.reduceAdd, not_false_eq_true, not_true_eq_false, and_true, true_and, and_false, false_and, or_true, true_or, or_false, false_or, and_self, or_self, Bool.false_eq_true]
      rw [h1, up_up]
    · by_cases e : s = t
      · subst e
        rw [h3 _ (by omega), up_eq, up_eq]
      · rw [h2 s (by omega) g2, up_ne _ _ (by decide)]
    · rw [h3 s (by omega), up_eq, up_ne _ _ (by omega)]
end CPY
