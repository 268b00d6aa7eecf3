section OPS6
variable {Lx : Nat} {xs : Nat → Int32} {σ : dS}
theorem sh_k {k : Nat} (h : k < 4) : isS (48 + 2 * k) := by
  have : k = 0 ∨ k = 1 ∨ k = 2 ∨ k = 3 := by omega
  rcases this with rfl | rfl | rfl | rfl
  · exact isS_48
  · exact isS_50
  · exact isS_52
  · exact isS_54
theorem r31 {F A : Nat → Nat → Int32} {J : Nat → Nat → Int64} {k : Nat} (h : k < 4) : drld (mk Lx F A J) 31 (nI k) = some (.ref (48 + 2 * k)) := by
  have : k = 0 ∨ k = 1 ∨ k = 2 ∨ k = 3 := by omega
  rcases this with rfl | rfl | rfl | rfl
  · exact r31_0
  · exact r31_1
  · exact r31_2
  · exact r31_3
theorem c_fillS {F A : Nat → Nat → Int32} {J : Nat → Nat → Int64} {P : Nat} (hP : isS P) (v : Int32) : dcall mJ7_fill_53178 [.ref (P + 1), .int v] (mk Lx F A J) = some (none, mk Lx F (up A (P + 1) (fun j => if j < 40 then v else A (P + 1) j)) J) := by
  rcases hP with rfl | rfl | rfl | rfl <;> exact c_fill (by decide) (fun _ _ _ => rfl) (by decide) v
theorem c_renew {F A : Nat → Nat → Int32} {J : Nat → Nat → Int64} {P : Nat} (hP : isS P) (ln n : Int32) : dcall mX4_renew [.ref P, .int ln, .int n] (mk Lx F A J) = some (none, mk Lx (up F P (up (up (F P) 1 ln) 2 n)) (up A (P + 1) (fun j => if j < 40 then nI 0 else A (P + 1) j)) J) := by
  simp (disch := omega) only [CX4_renew, SX4_renew, Gs hP, c_fillS hP, Ps hP, up_eq, up_up, Option.bind_some, Option.bind_none, if_true, if_false, zr0, zr1, one11, one01, one0, one1, Option.toList_some, Option.toList_none, List.cons_append, List.nil_append, Nat.reduceEqDiff, Nat.reduceAdd, not_false_eq_true, not_true_eq_false, and_true, true_and, and_false, false_and, or_true, true_or, or_false, false_or, and_self, or_self, Bool.false_eq_true]
theorem c_isSheet {k l : Int32} (σ : dS) : dcall mX7_isSheet [.int k, .int l] σ = some (some (.int (bI ((¬ k < 0 ∧ k ≤ nI 3) ∧ (¬ l < 0 ∧ l ≤ nI 2)))), σ) := by
  simp (disch := omega) only [CX7_isSheet, SX7_isSheet, c_in, w64N, w64le, ge0n, bI_0, Option.bind_some, Option.bind_none, if_true, if_false, zr0, zr1, one11, one01, one0, one1, Option.toList_some, Option.toList_none, List.cons_append, List.nil_append, Nat.reduceEqDiff, Nat.reduceAdd, not_false_eq_true, not_true_eq_false, and_true, true_and, and_false, false_and, or_true, true_or, or_false, false_or, and_self, or_self, Bool.false_eq_true]
  by_cases h1 : ¬ k < 0 ∧ k ≤ nI 3
  · by_cases h2 : ¬ l < 0 ∧ l ≤ nI 2
    · simp only [h1, h2, Option.bind_some, Option.bind_none, if_true, if_false, zr0, zr1, one11, one01, one0, one1, Option.toList_some, Option.toList_none, List.cons_append, List.nil_append, Nat.reduceEqDiff, Nat.reduceAdd, not_false_eq_true, not_true_eq_false, and_true, true_and, and_false, false_and, or_true, true_or, or_false, false_or, and_self, or_self, Bool.false_eq_true, bI]
    · simp only [h1, h2, Option.bind_some, Option.bind_none, if_true, if_false, zr0, zr1, one11, one01, one0, one1, Option.toList_some, Option.toList_none, List.cons_append, List.nil_append, Nat.reduceEqDiff, Nat.reduceAdd, not_false_eq_true, not_true_eq_false, and_true, true_and, and_false, false_and, or_true, true_or, or_false, false_or, and_self, or_self, Bool.false_eq_true, bI]
  · simp only [h1, Option.bind_some, Option.bind_none, if_true, if_false, zr0, zr1, one11, one01, one0, one1, Option.toList_some, Option.toList_none, List.cons_append, List.nil_append, Nat.reduceEqDiff, Nat.reduceAdd, not_false_eq_true, not_true_eq_false, and_true, true_and, and_false, false_and, or_true, true_or, or_false, false_or, and_self, or_self, Bool.false_eq_true, bI]
theorem l_sheetM {F : Nat → Nat → Int32} {J : Nat → Nat → Int64} {k : Nat} (hk : k < 4) (l n : Int32) : ∀ d t (A : Nat → Nat → Int32), t + d = 40 → ∃ f : Nat → Int32, den mX7_sheet 40 [some (.ref 56), some (.int (nI k)), some (.int l), some (.int n), some (.int (nI t))] [] (mk Lx F A J) = some (some (.int (nI 1)), mk Lx F (up A 73 f) J) ∧ (∀ s, t ≤ s → s < 40 → f (40 * k + s) = nI 0) ∧ ∀ s, (s < 40 * k + t ∨ 40 * k + 40 ≤ s) → f s = A 73 s := by
  intro d
  induction d with
  | zero =>
    intro t A ht
    have : ¬ t < 40 := by omega
    refine ⟨A 73, ?_, fun s h1 h2 => absurd h2 (by omega), fun s _ => rfl⟩
    rw [hX7_sheet_40]
    simp (disch := omega) only [SX7_sheet, nI_ltI, this, up_id, Option.bind_some, Option.bind_none, if_true, if_false, zr0, zr1, one11, one01, one0, one1, Option.toList_some, Option.toList_none, List.cons_append, List.nil_append, Nat.reduceEqDiff, Nat.reduceAdd, not_false_eq_true, not_true_eq_false, and_true, true_and, and_false, false_and, or_true, true_or, or_false, false_or, and_self, or_self, Bool.false_eq_true]
  | succ d ih =>
    intro t A ht
    have hlt : t < 40 := by omega
    obtain ⟨f, h1, h2, h3⟩ := ih (t + 1) (up A 73 (up (A 73) (40 * k + t) (nI 0))) (by omega)
    refine ⟨f, ?_, fun s g1 g2 => ?_, fun s g => ?_⟩
    · rw [hX7_sheet_40]
      simp (disch := omega) only [SX7_sheet, G56, leN, w73, nI_ltI, hlt, nI_m, nI_add, Option.bind_some, Option.bind_none, if_true, if_false, zr0, zr1, one11, one01, one0, one1, Option.toList_some, Option.toList_none, List.cons_append, List.nil_append, Nat.reduceEqDiff, Nat.reduceAdd, not_false_eq_true, not_true_eq_false, and_true, true_and, and_false, false_and, or_true, true_or, or_false, false_or, and_self, or_self, Bool.false_eq_true]
      rw [h1, up_up]
    · by_cases e : s = t
      · subst e
        rw [h3 _ (by omega), up_eq, up_eq]
      · exact h2 s (by omega) g2
    · rw [h3 s (by omega), up_eq, up_ne _ _ (by omega)]
theorem op_sheet (h : Iv Lx xs σ) (a l n : Int32) : okI Lx xs mX6_sheet mX7_sheet [.int a, .int l, .int n] σ := by
  obtain ⟨F, A, J, rfl, hx, hI⟩ := h
  obtain ⟨hT, hP, ⟨hI0, hI1⟩, hR, ⟨hS0, hS1, hS2, hS3⟩, hf, hto⟩ := id hI
  rcases iin a 4 (by omega) with ⟨k, hk, rfl⟩ | g
  · have a9 : nI k ≤ nI 3 := nI_le (by omega) (by omega)
    have a8 : ¬ nI k < 0 := nI_pos (by omega)
    rcases iin l 3 (by omega) with ⟨w, hw, rfl⟩ | g
    · have l9 : nI w ≤ nI 2 := nI_le (by omega) (by omega)
      have l8 : ¬ nI w < 0 := nI_pos (by omega)
      have l7 : ¬ 2 < w := by omega
      by_cases n40 : nI 40 < n
      · refine ⟨(-1), mk Lx F A J, mk Lx F A J, ?_, ?_, F, A, J, rfl, hx, hI⟩
        · simp (disch := omega) only [CX6_sheet, SX6_sheet, nI_l0, nI_ltI, hk, l7, n40, Option.bind_some, Option.bind_none, if_true, if_false, zr0, zr1, one11, one01, one0, one1, Option.toList_some, Option.toList_none, List.cons_append, List.nil_append, Nat.reduceEqDiff, Nat.reduceAdd, not_false_eq_true, not_true_eq_false, and_true, true_and, and_false, false_and, or_true, true_or, or_false, false_or, and_self, or_self, Bool.false_eq_true]
        · simp (disch := omega) only [CX7_sheet, SX7_sheet, c_isSheet, bI_0, a8, a9, l8, l9, n40, Option.bind_some, Option.bind_none, if_true, if_false, zr0, zr1, one11, one01, one0, one1, Option.toList_some, Option.toList_none, List.cons_append, List.nil_append, Nat.reduceEqDiff, Nat.reduceAdd, not_false_eq_true, not_true_eq_false, and_true, true_and, and_false, false_and, or_true, true_or, or_false, false_or, and_self, or_self, Bool.false_eq_true]
      · by_cases nneg : n < 0
        · refine ⟨(-14), mk Lx F A J, mk Lx F A J, ?_, ?_, F, A, J, rfl, hx, hI⟩
          · simp (disch := omega) only [CX6_sheet, SX6_sheet, nI_l0, nI_ltI, hk, l7, n40, nneg, Option.bind_some, Option.bind_none, if_true, if_false, zr0, zr1, one11, one01, one0, one1, Option.toList_some, Option.toList_none, List.cons_append, List.nil_append, Nat.reduceEqDiff, Nat.reduceAdd, not_false_eq_true, not_true_eq_false, and_true, true_and, and_false, false_and, or_true, true_or, or_false, false_or, and_self, or_self, Bool.false_eq_true]
          · simp (disch := omega) only [CX7_sheet, SX7_sheet, c_isSheet, bI_0, a8, a9, l8, l9, n40, nneg, Option.bind_some, Option.bind_none, if_true, if_false, zr0, zr1, one11, one01, one0, one1, Option.toList_some, Option.toList_none, List.cons_append, List.nil_append, Nat.reduceEqDiff, Nat.reduceAdd, not_false_eq_true, not_true_eq_false, and_true, true_and, and_false, false_and, or_true, true_or, or_false, false_or, and_self, or_self, Bool.false_eq_true]
        · obtain ⟨z, hz, rfl⟩ := nI_of nneg
          have hz40 : z ≤ 40 := by
            rcases Nat.lt_or_ge 40 z with y | y
            · exact absurd (nI_lt y hz) n40
            · exact y
          obtain ⟨f, m1, m2, m3⟩ := l_sheetM (Lx := Lx) (F := up F (48 + 2 * k) (up (up (F (48 + 2 * k)) 1 (nI w)) 2 (nI z))) (J := J) hk (nI w) (nI z) 40 0 (up (up (up A (48 + 2 * k + 1) (fun j => if j < 40 then nI 0 else A (48 + 2 * k + 1) j)) 71 (up (A 71) k (nI w))) 72 (up (A 72) k (nI z))) (by omega)
          have hop := Os (Lx := Lx) (F := F) (A := A) (J := J) (sh_k hk)
          refine ⟨nI 1, mk Lx (up F (48 + 2 * k) (up (up (F (48 + 2 * k)) 1 (nI w)) 2 (nI z))) (up A (48 + 2 * k + 1) (fun j => if j < 40 then nI 0 else A (48 + 2 * k + 1) j)) J, mk Lx (up F (48 + 2 * k) (up (up (F (48 + 2 * k)) 1 (nI w)) 2 (nI z))) (up (up (up (up A (48 + 2 * k + 1) (fun j => if j < 40 then nI 0 else A (48 + 2 * k + 1) j)) 71 (up (A 71) k (nI w))) 72 (up (A 72) k (nI z))) 73 f) J, ?_, ?_, _, _, _, rfl, ?_, ?_⟩
          · simp (disch := omega) only [CX6_sheet, SX6_sheet, G0, nI_l0, nI_ltI, hk, l7, n40, nneg, r31, hop, c_renew (sh_k hk), Option.bind_some, Option.bind_none, if_true, if_false, zr0, zr1, one11, one01, one0, one1, Option.toList_some, Option.toList_none, List.cons_append, List.nil_append, Nat.reduceEqDiff, Nat.reduceAdd, not_false_eq_true, not_true_eq_false, and_true, true_and, and_false, false_and, or_true, true_or, or_false, false_or, and_self, or_self, Bool.false_eq_true]
          · simp (disch := omega) only [CX7_sheet, SX7_sheet, G56, c_isSheet, bI_0, a8, a9, l8, l9, n40, nneg, w71, w72, up_ne, Option.bind_some, Option.bind_none, if_true, if_false, zr0, zr1, one11, one01, one0, one1, Option.toList_some, Option.toList_none, List.cons_append, List.nil_append, Nat.reduceEqDiff, Nat.reduceAdd, not_false_eq_true, not_true_eq_false, and_true, true_and, and_false, false_and, or_true, true_or, or_false, false_or, and_self, or_self, Bool.false_eq_true]
            exact m1
          · simp (disch := omega) only [up_ne]
            exact hx
          · have fS : ∀ k', k' < 4 → iS F A k' → iS (up F (48 + 2 * k) (up (up (F (48 + 2 * k)) 1 (nI w)) 2 (nI z))) (up (up (up (up A (48 + 2 * k + 1) (fun j => if j < 40 then nI 0 else A (48 + 2 * k + 1) j)) 71 (up (A 71) k (nI w))) 72 (up (A 72) k (nI z))) 73 f) k' := by
              intro k' hk' hi
              by_cases e : k' = k
              · subst e
                refine Or.inr ⟨w, z, by omega, hz40, (by simp (disch := omega) only [up_eq, up_ne]), (by simp (disch := omega) only [up_eq, up_ne]), (by simp (disch := omega) only [up_eq, up_ne]), (by simp (disch := omega) only [up_eq, up_ne]), fun i hi => ?_⟩
                rw [show 49 + 2 * k' = 48 + 2 * k' + 1 by omega]
                simp (disch := omega) only [up_eq, up_ne]
                rw [if_pos hi, m2 i (by omega) hi]
              · refine hi.fr (by simp (disch := omega) only [up_eq, up_ne]) ?_ (by simp (disch := omega) only [up_eq, up_ne]) (by simp (disch := omega) only [up_eq, up_ne]) (fun i hi2 => ?_)
                · rw [show 49 + 2 * k' = 48 + 2 * k' + 1 by omega]
                  simp (disch := omega) only [up_eq, up_ne]
                · rw [up_eq, m3 _ (by omega)]
                  simp (disch := omega) only [up_eq, up_ne]
            exact ⟨(hT.fr (by simp (disch := omega) only [up_eq, up_ne]) (by simp (disch := omega) only [up_eq, up_ne]) (by simp (disch := omega) only [up_eq, up_ne]) (by simp (disch := omega) only [up_eq, up_ne])), (hP.fr (by simp (disch := omega) only [up_eq, up_ne]) (fun d _ _ => by simp (disch := omega) only [up_eq, up_ne]) (by simp (disch := omega) only [up_eq, up_ne])), ⟨(hI0.fr (by simp (disch := omega) only [up_eq, up_ne]) (fun d _ _ => by simp (disch := omega) only [up_eq, up_ne]) (by simp (disch := omega) only [up_eq, up_ne]) (by simp (disch := omega) only [up_eq, up_ne]) (fun t _ => by simp (disch := omega) only [up_eq, up_ne])), (hI1.fr (by simp (disch := omega) only [up_eq, up_ne]) (fun d _ _ => by simp (disch := omega) only [up_eq, up_ne]) (by simp (disch := omega) only [up_eq, up_ne]) (by simp (disch := omega) only [up_eq, up_ne]) (fun t _ => by simp (disch := omega) only [up_eq, up_ne]))⟩, (hR.fr (by simp (disch := omega) only [up_eq, up_ne]) (by simp (disch := omega) only [up_eq, up_ne]) (by simp (disch := omega) only [up_eq, up_ne]) (by simp (disch := omega) only [up_eq, up_ne]) (by simp (disch := omega) only [up_eq, up_ne]) (by simp (disch := omega) only [up_eq, up_ne])), ⟨fS 0 (by omega) hS0, fS 1 (by omega) hS1, fS 2 (by omega) hS2, fS 3 (by omega) hS3⟩, (by simp (disch := omega) only [up_eq, up_ne]; exact hf), (by simp (disch := omega) only [up_eq, up_ne]; exact hto)⟩
    · refine ⟨(-1), mk Lx F A J, mk Lx F A J, ?_, ?_, F, A, J, rfl, hx, hI⟩
      · by_cases z : l < 0
        · simp (disch := omega) only [CX6_sheet, SX6_sheet, nI_l0, nI_ltI, hk, z, Option.bind_some, Option.bind_none, if_true, if_false, zr0, zr1, one11, one01, one0, one1, Option.toList_some, Option.toList_none, List.cons_append, List.nil_append, Nat.reduceEqDiff, Nat.reduceAdd, not_false_eq_true, not_true_eq_false, and_true, true_and, and_false, false_and, or_true, true_or, or_false, false_or, and_self, or_self, Bool.false_eq_true]
        · have : nI 2 < l := by
            rcases Int32.lt_or_le (nI 2) l with y | y
            · exact y
            · exact absurd ((in_le (by omega)).mp ⟨z, y⟩) g
          simp (disch := omega) only [CX6_sheet, SX6_sheet, nI_l0, nI_ltI, hk, z, this, Option.bind_some, Option.bind_none, if_true, if_false, zr0, zr1, one11, one01, one0, one1, Option.toList_some, Option.toList_none, List.cons_append, List.nil_append, Nat.reduceEqDiff, Nat.reduceAdd, not_false_eq_true, not_true_eq_false, and_true, true_and, and_false, false_and, or_true, true_or, or_false, false_or, and_self, or_self, Bool.false_eq_true]
      · have g3 : ¬ (¬ l < 0 ∧ l ≤ nI 2) := fun z => g ((in_le (by omega)).mp z)
        simp (disch := omega) only [CX7_sheet, SX7_sheet, c_isSheet, bI_0, g3, Option.bind_some, Option.bind_none, if_true, if_false, zr0, zr1, one11, one01, one0, one1, Option.toList_some, Option.toList_none, List.cons_append, List.nil_append, Nat.reduceEqDiff, Nat.reduceAdd, not_false_eq_true, not_true_eq_false, and_true, true_and, and_false, false_and, or_true, true_or, or_false, false_or, and_self, or_self, Bool.false_eq_true]
  · refine ⟨(-1), mk Lx F A J, mk Lx F A J, ?_, ?_, F, A, J, rfl, hx, hI⟩
    · by_cases z : a < 0
      · simp only [CX6_sheet, SX6_sheet, z, Option.bind_some, Option.bind_none, if_true, if_false, zr0, zr1, one11, one01, one0, one1, Option.toList_some, Option.toList_none, List.cons_append, List.nil_append, Nat.reduceEqDiff, Nat.reduceAdd, not_false_eq_true, not_true_eq_false, and_true, true_and, and_false, false_and, or_true, true_or, or_false, false_or, and_self, or_self, Bool.false_eq_true]
      · have : ¬ a < nI 4 := fun y => g ⟨z, y⟩
        simp only [CX6_sheet, SX6_sheet, z, this, Option.bind_some, Option.bind_none, if_true, if_false, zr0, zr1, one11, one01, one0, one1, Option.toList_some, Option.toList_none, List.cons_append, List.nil_append, Nat.reduceEqDiff, Nat.reduceAdd, not_false_eq_true, not_true_eq_false, and_true, true_and, and_false, false_and, or_true, true_or, or_false, false_or, and_self, or_self, Bool.false_eq_true]
    · have g3 : ¬ (¬ a < 0 ∧ a ≤ nI 3) := fun z => g ((in_le (by omega)).mp z)
      simp (disch := omega) only [CX7_sheet, SX7_sheet, c_isSheet, bI_0, g3, Option.bind_some, Option.bind_none, if_true, if_false, zr0, zr1, one11, one01, one0, one1, Option.toList_some, Option.toList_none, List.cons_append, List.nil_append, Nat.reduceEqDiff, Nat.reduceAdd, not_false_eq_true, not_true_eq_false, and_true, true_and, and_false, false_and, or_true, true_or, or_false, false_or, and_self, or_self, Bool.false_eq_true]
/-- what a cell of a lane keeps of an int -/
def lane (ln : Nat) (v : Int32) : Int32 := if ln = 0 then v.toInt8.toInt32 else if ln = 1 then v.toInt16.toInt32 else v
theorem c_write {F A : Nat → Nat → Int32} {J : Nat → Nat → Int64} {P ln i : Nat} (hP : isS P) (hl : F P 1 = nI ln) (h2 : ln ≤ 2) (hi : i < 40) (v : Int32) : dcall mX4_write [.ref P, .int (nI i), .int v] (mk Lx F A J) = some (none, mk Lx F (up A (P + 1) (up (A (P + 1)) i (lane ln v))) J) := by
  have : ln = 0 ∨ ln = 1 ∨ ln = 2 := by omega
  rcases this with rfl | rfl | rfl
  · simp (disch := omega) only [CX4_write, SX4_write, Gs hP, hl, nI_e0, ws1 hP, lane, Option.bind_some, Option.bind_none, if_true, if_false, zr0, zr1, one11, one01, one0, one1, Option.toList_some, Option.toList_none, List.cons_append, List.nil_append, Nat.reduceEqDiff, Nat.reduceAdd, not_false_eq_true, not_true_eq_false, and_true, true_and, and_false, false_and, or_true, true_or, or_false, false_or, and_self, or_self, Bool.false_eq_true]
  · simp (disch := omega) only [CX4_write, SX4_write, Gs hP, hl, nI_e0, ws1 hP, lane, Option.bind_some, Option.bind_none, if_true, if_false, zr0, zr1, one11, one01, one0, one1, Option.toList_some, Option.toList_none, List.cons_append, List.nil_append, Nat.reduceEqDiff, Nat.reduceAdd, not_false_eq_true, not_true_eq_false, and_true, true_and, and_false, false_and, or_true, true_or, or_false, false_or, and_self, or_self, Bool.false_eq_true]
  · simp (disch := omega) only [CX4_write, SX4_write, Gs hP, hl, nI_e0, nI_eq, ws1 hP, lane, Option.bind_some, Option.bind_none, if_true, if_false, zr0, zr1, one11, one01, one0, one1, Option.toList_some, Option.toList_none, List.cons_append, List.nil_append, Nat.reduceEqDiff, Nat.reduceAdd, not_false_eq_true, not_true_eq_false, and_true, true_and, and_false, false_and, or_true, true_or, or_false, false_or, and_self, or_self, Bool.false_eq_true]
theorem op_lay (h : Iv Lx xs σ) (a b v : Int32) : okI Lx xs mX6_lay mX7_lay [.int a, .int b, .int v] σ := by
  obtain ⟨F, A, J, rfl, hx, hI⟩ := h
  obtain ⟨hT, hP, ⟨hI0, hI1⟩, hR, ⟨hS0, hS1, hS2, hS3⟩, hf, hto⟩ := id hI
  rcases iin a 4 (by omega) with ⟨k, hk, rfl⟩ | g
  · have a9 : nI k ≤ nI 3 := nI_le (by omega) (by omega)
    have a8 : ¬ nI k < 0 := nI_pos (by omega)
    have z8 : ¬ nI 0 < 0 := by decide
    have z9 : nI 0 ≤ nI 2 := by decide
    have hkS : iS F A k := by
      have : k = 0 ∨ k = 1 ∨ k = 2 ∨ k = 3 := by omega
      rcases this with rfl | rfl | rfl | rfl
      · exact hS0
      · exact hS1
      · exact hS2
      · exact hS3
    have hop := Os (Lx := Lx) (F := F) (A := A) (J := J) (sh_k hk)
    rcases hkS with ⟨s1, s2⟩ | ⟨ln, sz, s1, s2, s3, s4, s5, s6, s7⟩
    · refine ⟨(-11), mk Lx F A J, mk Lx F A J, ?_, ?_, F, A, J, rfl, hx, hI⟩
      · simp (disch := omega) only [CX6_lay, SX6_lay, G0, Gs (sh_k hk), nI_l0, nI_ltI, hk, r31, s1, Option.bind_some, Option.bind_none, if_true, if_false, zr0, zr1, one11, one01, one0, one1, Option.toList_some, Option.toList_none, List.cons_append, List.nil_append, Nat.reduceEqDiff, Nat.reduceAdd, not_false_eq_true, not_true_eq_false, and_true, true_and, and_false, false_and, or_true, true_or, or_false, false_or, and_self, or_self, Bool.false_eq_true]
      · simp (disch := omega) only [CX7_lay, SX7_lay_0, SX7_lay_1, G56, leN, c_isSheet, bI_0, a8, a9, z8, z9, a71, s2, Option.bind_some, Option.bind_none, if_true, if_false, zr0, zr1, one11, one01, one0, one1, Option.toList_some, Option.toList_none, List.cons_append, List.nil_append, Nat.reduceEqDiff, Nat.reduceAdd, not_false_eq_true, not_true_eq_false, and_true, true_and, and_false, false_and, or_true, true_or, or_false, false_or, and_self, or_self, Bool.false_eq_true]
    · have n4 : ¬ nI sz = (-4) := fun z => by
        have := congrArg Int32.toInt z
        rw [nI_toInt (by omega)] at this
        have h4 : ((-4 : Int32)).toInt = -4 := by decide
        omega
      have n4l : ¬ nI ln = (-4) := fun z => by
        have := congrArg Int32.toInt z
        rw [nI_toInt (by omega)] at this
        have h4 : ((-4 : Int32)).toInt = -4 := by decide
        omega
      rcases iin b sz (by omega) with ⟨i, hi, rfl⟩ | g
      · have b8 : ¬ nI i < 0 := nI_pos (by omega)
        have b9 : ¬ nI i < 0 ∧ nI i ≤ nI sz - nI 1 := (in_n (by omega)).mpr ⟨b8, nI_lt hi (by omega)⟩
        refine ⟨nI 1, mk Lx F (up A (48 + 2 * k + 1) (up (A (48 + 2 * k + 1)) i (lane ln v))) J, mk Lx F (up (up A (48 + 2 * k + 1) (up (A (48 + 2 * k + 1)) i (lane ln v))) 73 (up (A 73) (40 * k + i) (lane ln v))) J, ?_, ?_, _, _, _, rfl, ?_, ?_⟩
        · simp (disch := omega) only [CX6_lay, SX6_lay, G0, Gs (sh_k hk), nI_l0, nI_ltI, hk, r31, s4, n4, hi, hop, c_write (sh_k hk) s3 s1, Option.bind_some, Option.bind_none, if_true, if_false, zr0, zr1, one11, one01, one0, one1, Option.toList_some, Option.toList_none, List.cons_append, List.nil_append, Nat.reduceEqDiff, Nat.reduceAdd, not_false_eq_true, not_true_eq_false, and_true, true_and, and_false, false_and, or_true, true_or, or_false, false_or, and_self, or_self, Bool.false_eq_true]
        · have : ln = 0 ∨ ln = 1 ∨ ln = 2 := by omega
          rcases this with rfl | rfl | rfl
          · simp (disch := omega) only [CX7_lay, SX7_lay_0, SX7_lay_1, G56, leN, c_isSheet, bI_0, a8, a9, z8, z9, a71, a72, up_ne, s5, s6, n4l, c_in, w64N, w64le, ge0n, b9, nI_e0, nI_eq, nI_m, nI_add, w73, lane, Option.bind_some, Option.bind_none, if_true, if_false, zr0, zr1, one11, one01, one0, one1, Option.toList_some, Option.toList_none, List.cons_append, List.nil_append, Nat.reduceEqDiff, Nat.reduceAdd, not_false_eq_true, not_true_eq_false, and_true, true_and, and_false, false_and, or_true, true_or, or_false, false_or, and_self, or_self, Bool.false_eq_true]
          · simp (disch := omega) only [CX7_lay, SX7_lay_0, SX7_lay_1, G56, leN, c_isSheet, bI_0, a8, a9, z8, z9, a71, a72, up_ne, s5, s6, n4l, c_in, w64N, w64le, ge0n, b9, nI_e0, nI_eq, nI_m, nI_add, w73, lane, Option.bind_some, Option.bind_none, if_true, if_false, zr0, zr1, one11, one01, one0, one1, Option.toList_some, Option.toList_none, List.cons_append, List.nil_append, Nat.reduceEqDiff, Nat.reduceAdd, not_false_eq_true, not_true_eq_false, and_true, true_and, and_false, false_and, or_true, true_or, or_false, false_or, and_self, or_self, Bool.false_eq_true]
          · simp (disch := omega) only [CX7_lay, SX7_lay_0, SX7_lay_1, G56, leN, c_isSheet, bI_0, a8, a9, z8, z9, a71, a72, up_ne, s5, s6, n4l, c_in, w64N, w64le, ge0n, b9, nI_e0, nI_eq, nI_m, nI_add, w73, lane, Option.bind_some, Option.bind_none, if_true, if_false, zr0, zr1, one11, one01, one0, one1, Option.toList_some, Option.toList_none, List.cons_append, List.nil_append, Nat.reduceEqDiff, Nat.reduceAdd, not_false_eq_true, not_true_eq_false, and_true, true_and, and_false, false_and, or_true, true_or, or_false, false_or, and_self, or_self, Bool.false_eq_true]
        · simp (disch := omega) only [up_ne]
          exact hx
        · have fS : ∀ k', k' < 4 → iS F A k' → iS F (up (up A (48 + 2 * k + 1) (up (A (48 + 2 * k + 1)) i (lane ln v))) 73 (up (A 73) (40 * k + i) (lane ln v))) k' := by
            intro k' hk' hi2
            by_cases e : k' = k
            · subst e
              refine Or.inr ⟨ln, sz, s1, s2, s3, s4, ?_, ?_, fun t ht => ?_⟩
              · simp (disch := omega) only [up_eq, up_ne]; exact s5
              · simp (disch := omega) only [up_eq, up_ne]; exact s6
              · rw [show 49 + 2 * k' = 48 + 2 * k' + 1 by omega]
                by_cases et : t = i
                · subst et
                  simp (disch := omega) only [up_eq, up_ne]
                · simp (disch := omega) only [up_eq, up_ne]
                  have := s7 t ht
                  rw [show 49 + 2 * k' = 48 + 2 * k' + 1 by omega] at this
                  exact this
            · refine hi2.fr rfl ?_ (by simp (disch := omega) only [up_eq, up_ne]) (by simp (disch := omega) only [up_eq, up_ne]) (fun t ht => ?_)
              · rw [show 49 + 2 * k' = 48 + 2 * k' + 1 by omega]
                simp (disch := omega) only [up_eq, up_ne]
              · simp (disch := omega) only [up_eq, up_ne]
          exact ⟨(hT.fr (by simp (disch := omega) only [up_eq, up_ne]) (by simp (disch := omega) only [up_eq, up_ne]) (by simp (disch := omega) only [up_eq, up_ne]) (by simp (disch := omega) only [up_eq, up_ne])), (hP.fr (by simp (disch := omega) only [up_eq, up_ne]) (fun d _ _ => by simp (disch := omega) only [up_eq, up_ne]) (by simp (disch := omega) only [up_eq, up_ne])), ⟨(hI0.fr (by simp (disch := omega) only [up_eq, up_ne]) (fun d _ _ => by simp (disch := omega) only [up_eq, up_ne]) (by simp (disch := omega) only [up_eq, up_ne]) (by simp (disch := omega) only [up_eq, up_ne]) (fun t _ => by simp (disch := omega) only [up_eq, up_ne])), (hI1.fr (by simp (disch := omega) only [up_eq, up_ne]) (fun d _ _ => by simp (disch := omega) only [up_eq, up_ne]) (by simp (disch := omega) only [up_eq, up_ne]) (by simp (disch := omega) only [up_eq, up_ne]) (fun t _ => by simp (disch := omega) only [up_eq, up_ne]))⟩, (hR.fr (by simp (disch := omega) only [up_eq, up_ne]) (by simp (disch := omega) only [up_eq, up_ne]) (by simp (disch := omega) only [up_eq, up_ne]) (by simp (disch := omega) only [up_eq, up_ne]) (by simp (disch := omega) only [up_eq, up_ne]) (by simp (disch := omega) only [up_eq, up_ne])), ⟨fS 0 (by omega) hS0, fS 1 (by omega) hS1, fS 2 (by omega) hS2, fS 3 (by omega) hS3⟩, hf, hto⟩
      · refine ⟨(-12), mk Lx F A J, mk Lx F A J, ?_, ?_, F, A, J, rfl, hx, hI⟩
        · by_cases z : b < 0
          · simp (disch := omega) only [CX6_lay, SX6_lay, G0, Gs (sh_k hk), nI_l0, nI_ltI, hk, r31, s4, n4, z, Option.bind_some, Option.bind_none, if_true, if_false, zr0, zr1, one11, one01, one0, one1, Option.toList_some, Option.toList_none, List.cons_append, List.nil_append, Nat.reduceEqDiff, Nat.reduceAdd, not_false_eq_true, not_true_eq_false, and_true, true_and, and_false, false_and, or_true, true_or, or_false, false_or, and_self, or_self, Bool.false_eq_true]
          · have : ¬ b < nI sz := fun y => g ⟨z, y⟩
            simp (disch := omega) only [CX6_lay, SX6_lay, G0, Gs (sh_k hk), nI_l0, nI_ltI, hk, r31, s4, n4, z, this, Option.bind_some, Option.bind_none, if_true, if_false, zr0, zr1, one11, one01, one0, one1, Option.toList_some, Option.toList_none, List.cons_append, List.nil_append, Nat.reduceEqDiff, Nat.reduceAdd, not_false_eq_true, not_true_eq_false, and_true, true_and, and_false, false_and, or_true, true_or, or_false, false_or, and_self, or_self, Bool.false_eq_true]
        · have g3 : ¬ (¬ b < 0 ∧ b ≤ nI sz - nI 1) := fun z => g ((in_n (by omega)).mp z)
          simp (disch := omega) only [CX7_lay, SX7_lay_0, SX7_lay_1, G56, leN, c_isSheet, bI_0, a8, a9, z8, z9, a71, a72, s5, s6, n4l, c_in, w64N, w64le, ge0n, g3, Option.bind_some, Option.bind_none, if_true, if_false, zr0, zr1, one11, one01, one0, one1, Option.toList_some, Option.toList_none, List.cons_append, List.nil_append, Nat.reduceEqDiff, Nat.reduceAdd, not_false_eq_true, not_true_eq_false, and_true, true_and, and_false, false_and, or_true, true_or, or_false, false_or, and_self, or_self, Bool.false_eq_true]
  · refine ⟨(-1), mk Lx F A J, mk Lx F A J, ?_, ?_, F, A, J, rfl, hx, hI⟩
    · by_cases z : a < 0
      · simp only [CX6_lay, SX6_lay, z, Option.bind_some, Option.bind_none, if_true, if_false, zr0, zr1, one11, one01, one0, one1, Option.toList_some, Option.toList_none, List.cons_append, List.nil_append, Nat.reduceEqDiff, Nat.reduceAdd, not_false_eq_true, not_true_eq_false, and_true, true_and, and_false, false_and, or_true, true_or, or_false, false_or, and_self, or_self, Bool.false_eq_true]
      · have : ¬ a < nI 4 := fun y => g ⟨z, y⟩
        simp only [CX6_lay, SX6_lay, z, this, Option.bind_some, Option.bind_none, if_true, if_false, zr0, zr1, one11, one01, one0, one1, Option.toList_some, Option.toList_none, List.cons_append, List.nil_append, Nat.reduceEqDiff, Nat.reduceAdd, not_false_eq_true, not_true_eq_false, and_true, true_and, and_false, false_and, or_true, true_or, or_false, false_or, and_self, or_self, Bool.false_eq_true]
    · have g3 : ¬ (¬ a < 0 ∧ a ≤ nI 3) := fun z => g ((in_le (by omega)).mp z)
      simp (disch := omega) only [CX7_lay, SX7_lay_0, SX7_lay_1, c_isSheet, bI_0, g3, Option.bind_some, Option.bind_none, if_true, if_false, zr0, zr1, one11, one01, one0, one1, Option.toList_some, Option.toList_none, List.cons_append, List.nil_append, Nat.reduceEqDiff, Nat.reduceAdd, not_false_eq_true, not_true_eq_false, and_true, true_and, and_false, false_and, or_true, true_or, or_false, false_or, and_self, or_self, Bool.false_eq_true]
end OPS6
