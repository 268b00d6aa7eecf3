section FLATM
variable {Lx : Nat} {F A : Nat → Nat → Int32} {J : Nat → Nat → Int64} {n ou : Nat} {c : Nat → Nat → Nat} {ws : Nat → Nat}
theorem wit_one (hv : PV n c ws ou) {j : Nat} : ∀ g, g ≤ 2 * nif c n → wit c n 6 g (2 * j + 1) = true → ¬ wit c n 6 g (2 * j + 2) = true := by
  intro g
  induction g using Nat.strongRecOn with
  | _ g ih =>
    intro hg h1 h2
    have l2 := wit_le c hv 6 g _ hg h2
    have hp := par_lt hv (by omega) hg
    have s1 := wit_step hv (by omega) hg (2 * j + 1)
    have s2 := wit_step hv (by omega) hg (2 * j + 2)
    rw [b1_t h1] at s1
    rw [b1_t h2] at s2
    by_cases e2 : g = 2 * j + 2
    · rw [b1_f (by omega), Nat.zero_add] at s1
      by_cases z : wit c n 6 (par c n g) (2 * j + 1) = true
      · have := wit_le c hv 6 _ _ hp.2.2.1 z
        omega
      · rw [b1_f z] at s1; omega
    · rw [b1_f (by omega), Nat.zero_add] at s1
      rw [b1_f (by omega), Nat.zero_add] at s2
      by_cases z : wit c n 6 (par c n g) (2 * j + 1) = true
      · by_cases z2 : wit c n 6 (par c n g) (2 * j + 2) = true
        · exact ih _ hp.2.1 hp.2.2.1 z z2
        · rw [b1_f z2] at s2; omega
      · rw [b1_f z] at s1; omega
/-- what instruction k adds to the flat of the if j -/
def fk (c : Nat → Nat → Nat) (n j k : Nat) : Nat := if wit c n 6 (c k 4) (2 * j + 1) = true ∨ wit c n 6 (c k 4) (2 * j + 2) = true then kap c k else 0
theorem fL_if (hv : PV n c ws ou) {i : Nat} (hi : i < n) (e5 : c i 0 = 5) : fL c n (kap c) i = 1 + sumF (fk c n (nif c i)) (i + 1) (n - (i + 1)) := by
  have hlt := nif_lt hi e5
  have e1 : fG c n (kap c) (2 * nif c i + 1) + fG c n (kap c) (2 * nif c i + 2) = sumF (fk c n (nif c i)) 0 n := by
    unfold fG
    rw [← sumF_add]
    refine sumF_cong (fun k _ hk => ?_)
    have hb := hv.b (show k < n by omega)
    have h1 := wit_one hv (j := nif c i) (c k 4) (by omega)
    unfold fk
    by_cases z : wit c n 6 (c k 4) (2 * nif c i + 1) = true
    · rw [if_pos (Or.inl z), b1_t z, b1_f (h1 z), Nat.one_mul, Nat.zero_mul, Nat.add_zero]
    · by_cases z2 : wit c n 6 (c k 4) (2 * nif c i + 2) = true
      · rw [if_pos (Or.inr z2), b1_f z, b1_t z2, Nat.one_mul, Nat.zero_mul, Nat.zero_add]
      · rw [if_neg (fun y => y.elim z z2), b1_f z, b1_f z2, Nat.zero_mul]
  have e2 : sumF (fk c n (nif c i)) 0 n = sumF (fk c n (nif c i)) (i + 1) (n - (i + 1)) := by
    conv => lhs; rw [show n = (i + 1) + (n - (i + 1)) by omega]
    rw [sumF_split _ (i + 1) 0, Nat.zero_add, show i + 1 + (n - (i + 1)) = n by omega, sumF_zero (fun k _ hk => ?_), Nat.zero_add]
    have hb := hv.b (show k < n by omega)
    have : nif c k ≤ nif c i := nif_mono (by omega)
    unfold fk
    rw [if_neg (fun y => y.elim (fun z => by have := wit_le c hv 6 _ _ (by omega) z; omega) (fun z => by have := wit_le c hv 6 _ _ (by omega) z; omega))]
  rw [fL, if_pos e5, e1, e2, kap, if_neg (by omega)]
theorem l_flatM (h : M0 (A 57) n c ws ou) (hv : PV n c ws ou) {i j : Nat} (hj : j < 6) : ∀ k i' m, i' + k = n → den mX7_flatOf 33 [some (.ref 56), some (.int (nI i)), some (.int (nI j)), some (.int (nI m)), some (.int (nI i'))] [] (mk Lx F A J) = some (some (.int (nI (m + sumF (fk c n j) i' k))), mk Lx F A J) := by
  have hn := hv.1
  intro k
  induction k with
  | zero =>
    intro i' m hi
    have hlt : ¬ i' < n := by omega
    rw [hX7_flatOf_33]
    simp (disch := omega) only [SX7_flatOf_0, SX7_flatOf_1, G56, leN, a57, h.1, nI_ltI, hlt, sumF, Nat.add_zero, Option.bind_some, Option.bind_none, if_true, if_false, zr0, zr1, one11, one01, one0, one1, Option.toList_some, Option.toList_none, List.cons_append, List.nil_append, Nat.reduceEqDiff, Nat.reduceAdd, not_false_eq_true, not_true_eq_false, and_true, true_and, and_false, false_and, or_true, true_or, or_false, false_or, and_self, or_self, Bool.false_eq_true]
  | succ k ih =>
    intro i' m hi
    have hlt : i' < n := by omega
    have hb := hv.b hlt
    have g4 := h.2.2.1 i' hlt 4 (by omega)
    have g0 := h.2.2.1 i' hlt 0 (by omega)
    have e := ih (i' + 1) (m + fk c n j i') (by omega)
    rw [sumF, ← Nat.add_assoc]
    rw [hX7_flatOf_33]
    by_cases z : wit c n 6 (c i' 4) (2 * j + 1) = true
    · have ek : fk c n j i' = kap c i' := if_pos (Or.inl z)
      rw [ek] at e ⊢
      simp (disch := omega) only [SX7_flatOf_0, SX7_flatOf_1, G56, O56, leN, a57, h.1, nI_ltI, hlt, c_of, g4, g0, nI_m, nI_add, c_isWithinM h hv, z, bI_t, one1, c_costOf, Option.bind_some, Option.bind_none, if_true, if_false, zr0, zr1, one11, one01, one0, one1, Option.toList_some, Option.toList_none, List.cons_append, List.nil_append, Nat.reduceEqDiff, Nat.reduceAdd, not_false_eq_true, not_true_eq_false, and_true, true_and, and_false, false_and, or_true, true_or, or_false, false_or, and_self, or_self, Bool.false_eq_true]
      exact e
    · by_cases z2 : wit c n 6 (c i' 4) (2 * j + 2) = true
      · have ek : fk c n j i' = kap c i' := if_pos (Or.inr z2)
        rw [ek] at e ⊢
        simp (disch := omega) only [SX7_flatOf_0, SX7_flatOf_1, G56, O56, leN, a57, h.1, nI_ltI, hlt, c_of, g4, g0, nI_m, nI_add, c_isWithinM h hv, bI_f z, bI_t z2, c_costOf, nI_e0, Option.bind_some, Option.bind_none, if_true, if_false, zr0, zr1, one11, one01, one0, one1, Option.toList_some, Option.toList_none, List.cons_append, List.nil_append, Nat.reduceEqDiff, Nat.reduceAdd, not_false_eq_true, not_true_eq_false, and_true, true_and, and_false, false_and, or_true, true_or, or_false, false_or, and_self, or_self, Bool.false_eq_true]
        exact e
      · have ek : fk c n j i' = 0 := if_neg (fun y => y.elim z z2)
        rw [ek, Nat.add_zero] at e ⊢
        simp (disch := omega) only [SX7_flatOf_0, SX7_flatOf_1, G56, O56, leN, a57, h.1, nI_ltI, hlt, c_of, g4, g0, nI_m, nI_add, c_isWithinM h hv, bI_f z, bI_f z2, nI_e0, e, Option.bind_some, Option.bind_none, if_true, if_false, zr0, zr1, one11, one01, one0, one1, Option.toList_some, Option.toList_none, List.cons_append, List.nil_append, Nat.reduceEqDiff, Nat.reduceAdd, not_false_eq_true, not_true_eq_false, and_true, true_and, and_false, false_and, or_true, true_or, or_false, false_or, and_self, or_self, Bool.false_eq_true]
theorem c_flatOf (h : M0 (A 57) n c ws ou) (hv : PV n c ws ou) {i : Nat} (hi : i < n) : dcall mX7_flatOf [.ref 56, .int (nI i)] (mk Lx F A J) = some (some (.int (nI (fL c n (kap c) i))), mk Lx F A J) := by
  have hn := hv.1
  have hn6 := hv.2.1
  have hb := hv.b hi
  have g0 := h.2.2.1 i hi 0 (by omega)
  rw [Nat.add_zero] at g0
  by_cases e5 : c i 0 = 5
  · have hlt := nif_lt hi e5
    have e := l_flatM (Lx := Lx) (F := F) (J := J) h hv (i := i) (j := nif c i) (by omega) (n - (i + 1)) (i + 1) 1 (by omega)
    rw [← fL_if hv hi e5] at e
    simp (disch := omega) only [CX7_flatOf, SX7_flatOf_0, SX7_flatOf_1, O56, c_of, Nat.add_zero, g0, nI_eq, e5, c_ifOfM h hv, nI_add, e, Option.bind_some, Option.bind_none, if_true, if_false, zr0, zr1, one11, one01, one0, one1, Option.toList_some, Option.toList_none, List.cons_append, List.nil_append, Nat.reduceEqDiff, Nat.reduceAdd, not_false_eq_true, not_true_eq_false, and_true, true_and, and_false, false_and, or_true, true_or, or_false, false_or, and_self, or_self, Bool.false_eq_true]
  · have ek : fL c n (kap c) i = (if c i 0 = 4 then 4 else 1) := by rw [fL, if_neg e5, Nat.add_zero, kap]
    rw [ek]
    simp (disch := omega) only [CX7_flatOf, SX7_flatOf_0, SX7_flatOf_1, O56, c_of, Nat.add_zero, g0, nI_eq, e5, c_costOf, Option.bind_some, Option.bind_none, if_true, if_false, zr0, zr1, one11, one01, one0, one1, Option.toList_some, Option.toList_none, List.cons_append, List.nil_append, Nat.reduceEqDiff, Nat.reduceAdd, not_false_eq_true, not_true_eq_false, and_true, true_and, and_false, false_and, or_true, true_or, or_false, false_or, and_self, or_self, Bool.false_eq_true]
theorem l_flatAll (h : M0 (A 57) n c ws ou) (hv : PV n c ws ou) : ∀ k i m, i + k = n → den mX7_flatOfAll 4 [some (.ref 56), some (.int (nI m)), some (.int (nI i))] [] (mk Lx F A J) = some (some (.int (nI (m + sumF (kap c) i k))), mk Lx F A J) := by
  have hn := hv.1
  intro k
  induction k with
  | zero =>
    intro i m hi
    have hlt : ¬ i < n := by omega
    rw [hX7_flatOfAll_4]
    simp (disch := omega) only [SX7_flatOfAll, G56, leN, a57, h.1, nI_ltI, hlt, sumF, Nat.add_zero, Option.bind_some, Option.bind_none, if_true, if_false, zr0, zr1, one11, one01, one0, one1, Option.toList_some, Option.toList_none, List.cons_append, List.nil_append, Nat.reduceEqDiff, Nat.reduceAdd, not_false_eq_true, not_true_eq_false, and_true, true_and, and_false, false_and, or_true, true_or, or_false, false_or, and_self, or_self, Bool.false_eq_true]
  | succ k ih =>
    intro i m hi
    have hlt : i < n := by omega
    have hb := hv.b hlt
    have g0 := h.2.2.1 i hlt 0 (by omega)
    have e := ih (i + 1) (m + kap c i) (by omega)
    rw [kap] at e
    rw [Nat.add_zero] at g0
    rw [sumF, ← Nat.add_assoc, kap]
    rw [hX7_flatOfAll_4]
    simp (disch := omega) only [SX7_flatOfAll, G56, O56, leN, a57, h.1, nI_ltI, hlt, c_of, Nat.add_zero, g0, c_costOf, nI_add, e, Option.bind_some, Option.bind_none, if_true, if_false, zr0, zr1, one11, one01, one0, one1, Option.toList_some, Option.toList_none, List.cons_append, List.nil_append, Nat.reduceEqDiff, Nat.reduceAdd, not_false_eq_true, not_true_eq_false, and_true, true_and, and_false, false_and, or_true, true_or, or_false, false_or, and_self, or_self, Bool.false_eq_true]
theorem c_flatOfAll (h : M0 (A 57) n c ws ou) (hv : PV n c ws ou) : dcall mX7_flatOfAll [.ref 56] (mk Lx F A J) = some (some (.int (nI (fG c n (kap c) 0))), mk Lx F A J) := by
  have e := l_flatAll (Lx := Lx) (F := F) (J := J) h hv n 0 0 (by omega)
  rw [Nat.zero_add, ← fG_0 (kap c) hv] at e
  simp only [CX7_flatOfAll, SX7_flatOfAll, e, Option.bind_some, Option.bind_none, if_true, if_false, zr0, zr1, one11, one01, one0, one1, Option.toList_some, Option.toList_none, List.cons_append, List.nil_append, Nat.reduceEqDiff, Nat.reduceAdd, not_false_eq_true, not_true_eq_false, and_true, true_and, and_false, false_and, or_true, true_or, or_false, false_or, and_self, or_self, Bool.false_eq_true]
end FLATM
