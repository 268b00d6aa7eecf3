theorem up_sm {α : Type} {f : Nat → α} {k : Nat} {v : α} (h : f k = v) : up f k v = f := by rw [← h, up_id]
/-- what the reference has read -/
def rdd (g f : Nat → Int32) (b : Nat → Nat) (t p : Nat) : Prop := f 6 = nI (tE b t p) ∧ f 7 = nI (tS b t p) ∧ (tK b t p ≠ 7 → f 10 = nI 0 ∧ f 8 = nI (sK (tK b t p))) ∧ (tK b t p = 2 → f 9 = nI (tV b t p)) ∧ (tK b t p = 7 → f 10 = nI 1 ∧ f 11 = nI (tS b t p)) ∧ ∀ q, q ≠ 6 → q ≠ 7 → q ≠ 8 → q ≠ 9 → q ≠ 10 → q ≠ 11 → f q = g q
section READS2
variable {Lx : Nat} {F A : Nat → Nat → Int32} {J : Nat → Nat → Int64} {b : Nat → Nat} {t : Nat}
theorem c_reads (h : tpM F A b t) {p : Nat} (hp : p ≤ t) (h10 : F 56 10 = nI 0) (h6 : F 56 6 = nI p) : ∃ f, dcall mX7_reads [.ref 56] (mk Lx F A J) = some (none, mk Lx (up F 56 f) A J) ∧ rdd (F 56) f b t p := by
  have ht := h.1
  have h5 := h.2.1
  have hl := t_le (b := b) hp
  have h0 : ¬ (0 : Nat) < 0 := by decide
  have eF : up F 56 (up (F 56) 6 (nI p)) = F := by rw [up_sm h6, up_id]
  have go : ∀ X : Option (Option Value × dS), den mX7_reads 34 [some (.ref 56), none] [] (mk Lx (up F 56 (up (F 56) 6 (nI (tS b t p)))) A J) = X → dcall mX7_reads [.ref 56] (mk Lx F A J) = X := fun X hX => by
    have e := l_sp8 (Lx := Lx) (J := J) h (f := F 56) h5 none (X := X) (t - p) p (by omega) hX
    rw [eF] at e
    obtain ⟨r0, r1, r4, r7, -⟩ := SX7_reads_0
    simp (disch := omega) only [CX7_reads, r0, r1, r4, r7, G56, h10, nI_g0, h0, e, Option.bind_some, Option.bind_none, if_true, if_false, zr0, zr1, one11, one01, one0, one1, Option.toList_some, Option.toList_none, List.cons_append, List.nil_append, Nat.reduceEqDiff, Nat.reduceAdd, not_false_eq_true, not_true_eq_false, and_true, true_and, and_false, false_and, or_true, true_or, or_false, false_or, and_self, or_self, Bool.false_eq_true]
  have hT : tpM (up F 56 (up (up (F 56) 6 (nI (tS b t p))) 7 (nI (tS b t p)))) A b t := h.fr (by simp (disch := omega) only [up_ne]; exact h5)
  have hb := c_byteAt (Lx := Lx) (J := J) hT (p := tS b t p) (by omega)
  unfold bv at hb
  by_cases z : t ≤ tS b t p
  · have hk : tK b t p = 0 := by unfold tK; rw [if_pos z]
    have he : tE b t p = tS b t p := by unfold tE; rw [if_pos z]
    rw [if_neg (by omega)] at hb
    have m1 : ((-1 : Int32) < 0) ↔ True := by decide
    refine ⟨up (up (up (F 56) 6 (nI (tS b t p))) 7 (nI (tS b t p))) 8 (nI 0), go _ ?_, ?_⟩
    · simp (disch := omega) only [SX7_reads_0, SX7_reads_3, G56, O56, P56, up_eq, up_ne, up_up, hb, m1, Option.bind_some, Option.bind_none, if_true, if_false, zr0, zr1, one11, one01, one0, one1, Option.toList_some, Option.toList_none, List.cons_append, List.nil_append, Nat.reduceEqDiff, Nat.reduceAdd, not_false_eq_true, not_true_eq_false, and_true, true_and, and_false, false_and, or_true, true_or, or_false, false_or, and_self, or_self, Bool.false_eq_true]
    · unfold rdd
      rw [hk, he]
      simp (disch := omega) only [up_eq, up_ne]
      exact ⟨trivial, trivial, fun _ => ⟨h10, rfl⟩, fun y => absurd y (by decide), fun y => absurd y (by decide), fun q a1 a2 a3 _ _ _ => by rw [up_ne _ _ a3, up_ne _ _ a2, up_ne _ _ a1]⟩
  · have hs : tS b t p < t := by omega
    rw [if_pos hs] at hb
    have b7 := (h.2.2 _ hs).1
    by_cases y : 97 ≤ b (tS b t p) ∧ b (tS b t p) ≤ 122
    · have hk : tK b t p = 1 := by unfold tK; rw [if_neg z, if_pos y]
      have he : tE b t p = sp b t 97 122 (tS b t p) := by unfold tE; rw [if_neg z, if_pos y]
      have e82 := l_nm82 (Lx := Lx) (J := J) h (f := up (up (up (F 56) 6 (nI (tS b t p))) 7 (nI (tS b t p))) 8 (nI 1)) (by simp (disch := omega) only [up_ne]; exact h5) (some (.int (nI (b (tS b t p))))) (t - tS b t p) (tS b t p) (by omega)
      rw [up_sm (f := up (up (up (F 56) 6 (nI (tS b t p))) 7 (nI (tS b t p))) 8 (nI 1)) (k := 6) (v := nI (tS b t p)) (by simp (disch := omega) only [up_eq, up_ne]), ← he] at e82
      refine ⟨up (up (up (up (F 56) 6 (nI (tS b t p))) 7 (nI (tS b t p))) 8 (nI 1)) 6 (nI (tE b t p)), go _ ?_, ?_⟩
      · simp (disch := omega) only [SX7_reads_0, G56, O56, P56, up_eq, up_ne, up_up, hb, nI_l0, c_in, w64N, w64le, nI_leI, bI_0, y, e82, Option.bind_some, Option.bind_none, if_true, if_false, zr0, zr1, one11, one01, one0, one1, Option.toList_some, Option.toList_none, List.cons_append, List.nil_append, Nat.reduceEqDiff, Nat.reduceAdd, not_false_eq_true, not_true_eq_false, and_true, true_and, and_false, false_and, or_true, true_or, or_false, false_or, and_self, or_self, Bool.false_eq_true]
      · unfold rdd
        rw [hk]
        simp (disch := omega) only [up_eq, up_ne]
        exact ⟨trivial, trivial, fun _ => ⟨h10, rfl⟩, fun y => absurd y (by decide), fun y => absurd y (by decide), fun q a1 a2 a3 _ _ _ => by rw [up_ne _ _ a1, up_ne _ _ a3, up_ne _ _ a2, up_ne _ _ a1]⟩
    · by_cases x : 48 ≤ b (tS b t p) ∧ b (tS b t p) ≤ 57
      · have he : tE b t p = sp b t 48 57 (tS b t p) := by unfold tE; rw [if_neg z, if_neg y, if_pos x]
        have gd : ∀ X : Option (Option Value × dS), den mX7_reads 217 [some (.ref 56), some (.int (nI (b (tS b t p))))] [] (mk Lx (up F 56 (up (up (up (up (up (F 56) 6 (nI (tS b t p))) 7 (nI (tS b t p))) 8 (nI 2)) 9 (nI (dgv b t (tS b t p) (t - tS b t p) (tS b t p) 0))) 6 (nI (tE b t p)))) A J) = X → den mX7_reads 34 [some (.ref 56), none] [] (mk Lx (up F 56 (up (F 56) 6 (nI (tS b t p)))) A J) = X := fun X hX => by
          rw [he] at hX
          have e := l_dg140 (Lx := Lx) (J := J) h (f := up (up (up (F 56) 6 (nI (tS b t p))) 7 (nI (tS b t p))) 8 (nI 2)) (s := tS b t p) (by simp (disch := omega) only [up_ne]; exact h5) (by simp (disch := omega) only [up_eq, up_ne]) (by omega) (some (.int (nI (b (tS b t p))))) (X := X) (t - tS b t p) (tS b t p) 0 (by omega) (Nat.le_refl _) hX
          rw [up_sm (f := up (up (up (up (F 56) 6 (nI (tS b t p))) 7 (nI (tS b t p))) 8 (nI 2)) 9 (nI 0)) (k := 6) (v := nI (tS b t p)) (by simp (disch := omega) only [up_eq, up_ne])] at e
          simp (disch := omega) only [SX7_reads_0, SX7_reads_1, G56, O56, P56, up_eq, up_ne, up_up, hb, nI_l0, c_in, w64N, w64le, nI_leI, bI_0, y, x, e, Option.bind_some, Option.bind_none, if_true, if_false, zr0, zr1, one11, one01, one0, one1, Option.toList_some, Option.toList_none, List.cons_append, List.nil_append, Nat.reduceEqDiff, Nat.reduceAdd, not_false_eq_true, not_true_eq_false, and_true, true_and, and_false, false_and, or_true, true_or, or_false, false_or, and_self, or_self, Bool.false_eq_true]
        by_cases w : tE b t p - tS b t p ≤ 2
        · have hk : tK b t p = 2 := by unfold tK; rw [if_neg z, if_neg y, if_pos x, if_pos w]
          have w1 : ¬ 2 < tE b t p - tS b t p := by omega
          rw [dgv_V hp hk] at gd
          refine ⟨up (up (up (up (up (F 56) 6 (nI (tS b t p))) 7 (nI (tS b t p))) 8 (nI 2)) 9 (nI (tV b t p))) 6 (nI (tE b t p)), go _ (gd _ ?_), ?_⟩
          · simp (disch := omega) only [SX7_reads_2, SX7_reads_3, G56, O56, up_eq, up_ne, nI_s, nI_ltI, w1, c_reqY, Option.bind_some, Option.bind_none, if_true, if_false, zr0, zr1, one11, one01, one0, one1, Option.toList_some, Option.toList_none, List.cons_append, List.nil_append, Nat.reduceEqDiff, Nat.reduceAdd, not_false_eq_true, not_true_eq_false, and_true, true_and, and_false, false_and, or_true, true_or, or_false, false_or, and_self, or_self, Bool.false_eq_true]
          · unfold rdd
            rw [hk]
            simp (disch := omega) only [up_eq, up_ne]
            exact ⟨trivial, trivial, fun _ => ⟨h10, rfl⟩, fun _ => trivial, fun y => absurd y (by decide), fun q a1 a2 a3 a4 _ _ => by rw [up_ne _ _ a1, up_ne _ _ a4, up_ne _ _ a3, up_ne _ _ a2, up_ne _ _ a1]⟩
        · have hk : tK b t p = 7 := by unfold tK; rw [if_neg z, if_neg y, if_pos x, if_neg w]
          have w1 : 2 < tE b t p - tS b t p := by omega
          have rq := c_reqN (Lx := Lx) (A := A) (J := J) (F := up F 56 (up (up (up (up (up (F 56) 6 (nI (tS b t p))) 7 (nI (tS b t p))) 8 (nI 2)) 9 (nI (dgv b t (tS b t p) (t - tS b t p) (tS b t p) 0))) 6 (nI (tE b t p)))) (nI 1) (by simp (disch := omega) only [up_eq, up_ne]; exact h10)
          simp (disch := omega) only [up_eq, up_ne, up_up] at rq
          refine ⟨up (up (up (up (up (up (up (F 56) 6 (nI (tS b t p))) 7 (nI (tS b t p))) 8 (nI 2)) 9 (nI (dgv b t (tS b t p) (t - tS b t p) (tS b t p) 0))) 6 (nI (tE b t p))) 10 (nI 1)) 11 (nI (tS b t p)), go _ (gd _ ?_), ?_⟩
          · simp (disch := omega) only [SX7_reads_2, SX7_reads_3, G56, O56, up_eq, up_ne, nI_s, nI_ltI, w1, rq, Option.bind_some, Option.bind_none, if_true, if_false, zr0, zr1, one11, one01, one0, one1, Option.toList_some, Option.toList_none, List.cons_append, List.nil_append, Nat.reduceEqDiff, Nat.reduceAdd, not_false_eq_true, not_true_eq_false, and_true, true_and, and_false, false_and, or_true, true_or, or_false, false_or, and_self, or_self, Bool.false_eq_true]
          · unfold rdd
            rw [hk]
            simp (disch := omega) only [up_eq, up_ne]
            exact ⟨trivial, trivial, fun y => absurd rfl y, fun y => absurd y (by decide), fun _ => ⟨trivial, trivial⟩, fun q a1 a2 a3 a4 a5 a6 => by rw [up_ne _ _ a6, up_ne _ _ a5, up_ne _ _ a1, up_ne _ _ a4, up_ne _ _ a3, up_ne _ _ a2, up_ne _ _ a1]⟩
      · have he : tE b t p = tS b t p + 1 := by unfold tE; rw [if_neg z, if_neg y, if_neg x]
        by_cases w : b (tS b t p) = 59 ∨ b (tS b t p) = 123 ∨ b (tS b t p) = 125
        · have hk : tK b t p = b (tS b t p) := by unfold tK; rw [if_neg z, if_neg y, if_neg x, if_pos w]
          refine ⟨up (up (up (up (F 56) 6 (nI (tS b t p))) 7 (nI (tS b t p))) 8 (nI (sK (b (tS b t p))))) 6 (nI (tE b t p)), go _ ?_, ?_⟩
          · rw [he]
            rcases w with w | w | w
            · rw [w] at hb x y ⊢
              have n1 : ¬ (59 : Nat) = 123 := by decide
              have n2 : ¬ (59 : Nat) = 125 := by decide
              have es : sK 59 = 3 := rfl
              simp (disch := omega) only [SX7_reads_0, SX7_reads_1, SX7_reads_2, SX7_reads_3, G56, O56, P56, up_eq, up_ne, up_up, hb, nI_l0, c_in, w64N, w64le, nI_leI, bI_0, y, x, nI_eq, n1, n2, es, c_reqY, nI_add, eq_self_iff_true, Option.bind_some, Option.bind_none, if_true, if_false, zr0, zr1, one11, one01, one0, one1, Option.toList_some, Option.toList_none, List.cons_append, List.nil_append, Nat.reduceEqDiff, Nat.reduceAdd, not_false_eq_true, not_true_eq_false, and_true, true_and, and_false, false_and, or_true, true_or, or_false, false_or, and_self, or_self, Bool.false_eq_true]
            · rw [w] at hb x y ⊢
              have es : sK 123 = 4 := rfl
              have n1 : ¬ (4 : Nat) = 3 := by decide
              simp (disch := omega) only [SX7_reads_0, SX7_reads_1, SX7_reads_2, SX7_reads_3, G56, O56, P56, up_eq, up_ne, up_up, hb, nI_l0, c_in, w64N, w64le, nI_leI, bI_0, y, x, nI_eq, n1, es, c_reqY, nI_add, eq_self_iff_true, Option.bind_some, Option.bind_none, if_true, if_false, zr0, zr1, one11, one01, one0, one1, Option.toList_some, Option.toList_none, List.cons_append, List.nil_append, Nat.reduceEqDiff, Nat.reduceAdd, not_false_eq_true, not_true_eq_false, and_true, true_and, and_false, false_and, or_true, true_or, or_false, false_or, and_self, or_self, Bool.false_eq_true]
            · rw [w] at hb x y ⊢
              have es : sK 125 = 5 := rfl
              have n1 : ¬ (5 : Nat) = 3 := by decide
              have n2 : ¬ (125 : Nat) = 123 := by decide
              simp (disch := omega) only [SX7_reads_0, SX7_reads_1, SX7_reads_2, SX7_reads_3, G56, O56, P56, up_eq, up_ne, up_up, hb, nI_l0, c_in, w64N, w64le, nI_leI, bI_0, y, x, nI_eq, n1, n2, es, c_reqY, nI_add, eq_self_iff_true, Option.bind_some, Option.bind_none, if_true, if_false, zr0, zr1, one11, one01, one0, one1, Option.toList_some, Option.toList_none, List.cons_append, List.nil_append, Nat.reduceEqDiff, Nat.reduceAdd, not_false_eq_true, not_true_eq_false, and_true, true_and, and_false, false_and, or_true, true_or, or_false, false_or, and_self, or_self, Bool.false_eq_true]
          · unfold rdd
            rw [hk]
            simp (disch := omega) only [up_eq, up_ne]
            exact ⟨trivial, trivial, fun _ => ⟨h10, trivial⟩, fun y => absurd y (by omega), fun y => absurd y (by omega), fun q a1 a2 a3 _ _ _ => by rw [up_ne _ _ a1, up_ne _ _ a3, up_ne _ _ a2, up_ne _ _ a1]⟩
        · have hk : tK b t p = 7 := by unfold tK; rw [if_neg z, if_neg y, if_neg x, if_neg w]
          have w1 : ¬ b (tS b t p) = 59 := fun e => w (Or.inl e)
          have w2 : ¬ b (tS b t p) = 123 := fun e => w (Or.inr (Or.inl e))
          have w3 : ¬ b (tS b t p) = 125 := fun e => w (Or.inr (Or.inr e))
          have rq := c_reqN (Lx := Lx) (A := A) (J := J) (F := up F 56 (up (up (up (F 56) 6 (nI (tS b t p))) 7 (nI (tS b t p))) 8 (nI 3))) (nI 1) (by simp (disch := omega) only [up_eq, up_ne]; exact h10)
          simp (disch := omega) only [up_eq, up_ne, up_up] at rq
          refine ⟨up (up (up (up (up (up (F 56) 6 (nI (tS b t p))) 7 (nI (tS b t p))) 8 (nI 3)) 10 (nI 1)) 11 (nI (tS b t p))) 6 (nI (tE b t p)), go _ ?_, ?_⟩
          · rw [he]
            simp (disch := omega) only [SX7_reads_0, SX7_reads_1, SX7_reads_2, SX7_reads_3, G56, O56, P56, up_eq, up_ne, up_up, hb, nI_l0, c_in, w64N, w64le, nI_leI, bI_0, y, x, nI_eq, w1, w2, w3, rq, nI_add, eq_self_iff_true, Option.bind_some, Option.bind_none, if_true, if_false, zr0, zr1, one11, one01, one0, one1, Option.toList_some, Option.toList_none, List.cons_append, List.nil_append, Nat.reduceEqDiff, Nat.reduceAdd, not_false_eq_true, not_true_eq_false, and_true, true_and, and_false, false_and, or_true, true_or, or_false, false_or, and_self, or_self, Bool.false_eq_true]
          · unfold rdd
            rw [hk]
            simp (disch := omega) only [up_eq, up_ne]
            exact ⟨trivial, trivial, fun y => absurd rfl y, fun y => absurd y (by decide), fun _ => ⟨trivial, trivial⟩, fun q a1 a2 a3 _ a5 a6 => by rw [up_ne _ _ a1, up_ne _ _ a6, up_ne _ _ a5, up_ne _ _ a3, up_ne _ _ a2, up_ne _ _ a1]⟩
end READS2
