/-! read: changes from a sheet -/
def mayB (n : Nat) (c : Nat → Nat → Nat) (i w v : Int32) : Bool := decide ((¬ i < 0 ∧ i < nI n) ∧ ¬ v < 0 ∧ v ≤ most (c i.toNatClampNeg 0) w)
theorem mayB_iff {n : Nat} {c : Nat → Nat → Nat} {i w v : Int32} : mayB n c i w v = true ↔ mayC n c i w v := by
  unfold mayB mayC
  exact decide_eq_true_iff
def st1 (c : Nat → Nat → Nat) (i w v : Int32) : Nat → Nat → Nat := if w.toNatClampNeg = 0 then c else up c i.toNatClampNeg (up (c i.toNatClampNeg) w.toNatClampNeg v.toNatClampNeg)
def chs (cl : Nat → Int32) (fn : Nat) (c : Nat → Nat → Nat) : Nat → Nat → Nat → Nat
  | 0 => c
  | m + 1 => st1 (chs cl fn c m) (cl (fn + 3 * m)) (cl (fn + 3 * m + 1)) (cl (fn + 3 * m + 2))
theorem st1_k (c : Nat → Nat → Nat) (i w v : Int32) (q : Nat) : st1 c i w v q 0 = c q 0 := by
  unfold st1
  by_cases h : w.toNatClampNeg = 0
  · rw [if_pos h]
  · rw [if_neg h]
    by_cases z : q = i.toNatClampNeg
    · rw [z, up_eq, up_ne _ _ (Ne.symm h)]
    · rw [up_ne _ _ z]
theorem chs_k (cl : Nat → Int32) (fn : Nat) (c : Nat → Nat → Nat) : ∀ m q, chs cl fn c m q 0 = c q 0
  | 0, _ => rfl
  | m + 1, q => by rw [chs, st1_k, chs_k cl fn c m q]
theorem mayB_cong {n : Nat} {c d : Nat → Nat → Nat} (h : ∀ q, d q 0 = c q 0) (i w v : Int32) : mayB n d i w v = mayB n c i w v := by
  unfold mayB
  rw [h]
/-- what a walk over the changes finds: whether one is refused, at which or how many are whole, the fault -/
def sc (G P : Nat → Bool) : Nat → Nat → Bool × Nat × Nat
  | 0, m => (false, m, 0)
  | k + 1, m => if G m = true then (if P m = true then sc G P k (m + 1) else (true, m, 0)) else (false, m, 2)
theorem sc_le (G P : Nat → Bool) : ∀ k m, m ≤ (sc G P k m).2.1 ∧ (sc G P k m).2.1 ≤ m + k ∧ (sc G P k m).2.2 ≤ 2 ∧ ∀ q, m ≤ q → q < (sc G P k m).2.1 → G q = true ∧ P q = true := by
  intro k
  induction k with
  | zero => intro m; exact ⟨Nat.le_refl m, Nat.le_refl m, Nat.zero_le 2, fun q h1 h2 => absurd h2 (Nat.not_lt.mpr h1)⟩
  | succ k ih =>
    intro m
    rw [sc]
    by_cases h1 : G m = true
    · rw [if_pos h1]
      by_cases h2 : P m = true
      · rw [if_pos h2]
        obtain ⟨g1, g2, g3, g4⟩ := ih (m + 1)
        refine ⟨by omega, by omega, g3, fun q a1 a2 => ?_⟩
        by_cases z : q = m
        · rw [z]; exact ⟨h1, h2⟩
        · exact g4 q (by omega) a2
      · rw [if_neg h2]
        exact ⟨Nat.le_refl m, Nat.le_add_right _ _, Nat.zero_le 2, fun q a1 a2 => absurd a2 (Nat.not_lt.mpr a1)⟩
    · rw [if_neg h1]
      exact ⟨Nat.le_refl m, Nat.le_add_right _ _, Nat.le_refl 2, fun q a1 a2 => absurd a2 (Nat.not_lt.mpr a1)⟩
theorem sub3 {sz x : Nat} (h1 : sz ≤ 40) (h2 : x < 2 ^ 31) : (nI sz - nI 3 < nI x) ↔ sz < x + 3 := by
  have e := pk_sub_toInt (a := sz) (b := 3) (by omega) (by decide)
  rw [Int32.lt_iff_toInt_lt, e, nI_toInt h2]
  omega
theorem ch_step {n ou : Nat} {c : Nat → Nat → Nat} {ws : Nat → Nat} (hv : PV n c ws ou) {i w v : Int32} (hm : mayC n c i w v) : ∃ j k u : Nat, i = nI j ∧ w = nI k ∧ v = nI u ∧ j < n ∧ (k = 1 ∨ k = 2 ∨ k = 3) ∧ st1 c i w v = up c j (up (c j) k u) ∧ PV n (up c j (up (c j) k u)) ws ou := by
  have hn := hv.1
  obtain ⟨j, k, u, hj, rfl, rfl, rfl, hu⟩ := mayC_nat hn hm
  refine ⟨j, k, u, rfl, rfl, rfl, hj, by omega, ?_, PV_set hv hj (by omega)⟩
  unfold st1
  rw [nI_clamp (by omega), nI_clamp (by omega), nI_clamp (by omega), if_neg (by omega)]
section READ6
variable {Lx : Nat} {J : Nat → Nat → Int64} {n ou : Nat} {c : Nat → Nat → Nat} {ws : Nat → Nat}
theorem c_fault {F A : Nat → Nat → Int32} {Q ln sz x : Nat} (hQ : isS Q) (s1 : F Q 1 = nI ln) (s2 : F Q 2 = nI sz) (hs : sz ≤ 40) (hx : x < 2 ^ 31) : dcall mX4_faultOfChange [.ref Q, .int (nI ln), .int (nI x)] (mk Lx F A J) = some (some (.int (if x + 3 ≤ sz then nI 0 else nI 2)), mk Lx F A J) := by
  have n4 : ¬ nI sz = (-4) := nI_m4 (by omega)
  by_cases h : x + 3 ≤ sz
  · have h2 : ¬ sz < x + 3 := by omega
    rw [if_pos h]
    simp (disch := omega) only [CX4_faultOfChange, SX4_faultOfChange, Gs hQ, s1, s2, n4, nI_l0, sub3, h2, eq_self_iff_true, Option.bind_some, Option.bind_none, if_true, if_false, zr0, zr1, one11, one01, one0, one1, Option.toList_some, Option.toList_none, List.cons_append, List.nil_append, Nat.reduceEqDiff, Nat.reduceAdd, not_false_eq_true, not_true_eq_false, and_true, true_and, and_false, false_and, or_true, true_or, or_false, false_or, and_self, or_self, Bool.false_eq_true]
  · have h2 : sz < x + 3 := by omega
    rw [if_neg h]
    simp (disch := omega) only [CX4_faultOfChange, SX4_faultOfChange, Gs hQ, s1, s2, n4, nI_l0, sub3, h2, eq_self_iff_true, Option.bind_some, Option.bind_none, if_true, if_false, zr0, zr1, one11, one01, one0, one1, Option.toList_some, Option.toList_none, List.cons_append, List.nil_append, Nat.reduceEqDiff, Nat.reduceAdd, not_false_eq_true, not_true_eq_false, and_true, true_and, and_false, false_and, or_true, true_or, or_false, false_or, and_self, or_self, Bool.false_eq_true]
theorem c_faultE {F A : Nat → Nat → Int32} {Q : Nat} (hQ : isS Q) (l f : Int32) (e : Nat) (he : (F Q 2 = (-4) ∧ e = 1) ∨ (¬ F Q 2 = (-4) ∧ ¬ l = F Q 1 ∧ e = 3) ∨ (¬ F Q 2 = (-4) ∧ l = F Q 1 ∧ f < 0 ∧ e = 2)) : dcall mX4_faultOfChange [.ref Q, .int l, .int f] (mk Lx F A J) = some (some (.int (nI e)), mk Lx F A J) := by
  rcases he with ⟨h1, rfl⟩ | ⟨h1, h2, rfl⟩ | ⟨h1, h2, h3, rfl⟩
  · simp (disch := omega) only [CX4_faultOfChange, SX4_faultOfChange, Gs hQ, h1, eq_self_iff_true, Option.bind_some, Option.bind_none, if_true, if_false, zr0, zr1, one11, one01, one0, one1, Option.toList_some, Option.toList_none, List.cons_append, List.nil_append, Nat.reduceEqDiff, Nat.reduceAdd, not_false_eq_true, not_true_eq_false, and_true, true_and, and_false, false_and, or_true, true_or, or_false, false_or, and_self, or_self, Bool.false_eq_true]
  · simp (disch := omega) only [CX4_faultOfChange, SX4_faultOfChange, Gs hQ, h1, h2, Option.bind_some, Option.bind_none, if_true, if_false, zr0, zr1, one11, one01, one0, one1, Option.toList_some, Option.toList_none, List.cons_append, List.nil_append, Nat.reduceEqDiff, Nat.reduceAdd, not_false_eq_true, not_true_eq_false, and_true, true_and, and_false, false_and, or_true, true_or, or_false, false_or, and_self, or_self, Bool.false_eq_true]
  · simp (disch := omega) only [CX4_faultOfChange, SX4_faultOfChange, Gs hQ, h1, h2, h3, eq_self_iff_true, Option.bind_some, Option.bind_none, if_true, if_false, zr0, zr1, one11, one01, one0, one1, Option.toList_some, Option.toList_none, List.cons_append, List.nil_append, Nat.reduceEqDiff, Nat.reduceAdd, not_false_eq_true, not_true_eq_false, and_true, true_and, and_false, false_and, or_true, true_or, or_false, false_or, and_self, or_self, Bool.false_eq_true]
theorem l_rd1 {F A : Nat → Nat → Int32} (hX : XP F A 12 n c ws ou) (hv : PV n c ws ou) {Q ln sz fn nn k : Nat} (hQ : isS Q) (s1 : F Q 1 = nI ln) (s2 : F Q 2 = nI sz) (hs : sz ≤ 40) (hnn : nn ≤ 13) (hk : k < 4) : ∀ K m (l9 : Option Value), m + K = nn → fn + 3 * m < 2 ^ 31 → ((sc (fun m => decide (fn + 3 * m + 3 ≤ sz)) (fun m => mayB n c (A (Q + 1) (fn + 3 * m)) (A (Q + 1) (fn + 3 * m + 1)) (A (Q + 1) (fn + 3 * m + 2))) K m).1 = true → den mX6_read 49 [some (.ref 0), some (.int (nI k)), some (.int (nI ln)), some (.int (nI fn)), some (.int (nI nn)), some (.ref Q), some (.int (nI 0)), some (.int (nI m)), some (.int (nI m)), l9] [] (mk Lx F A J) = some (some (.int ((-20) - nI (sc (fun m => decide (fn + 3 * m + 3 ≤ sz)) (fun m => mayB n c (A (Q + 1) (fn + 3 * m)) (A (Q + 1) (fn + 3 * m + 1)) (A (Q + 1) (fn + 3 * m + 2))) K m).2.1)), mk Lx F A J)) ∧ ((sc (fun m => decide (fn + 3 * m + 3 ≤ sz)) (fun m => mayB n c (A (Q + 1) (fn + 3 * m)) (A (Q + 1) (fn + 3 * m + 1)) (A (Q + 1) (fn + 3 * m + 2))) K m).1 = false → ∃ l9' : Option Value, ∀ X : Option (Option Value × dS), den mX6_read 140 [some (.ref 0), some (.int (nI k)), some (.int (nI ln)), some (.int (nI fn)), some (.int (nI nn)), some (.ref Q), some (.int (nI (sc (fun m => decide (fn + 3 * m + 3 ≤ sz)) (fun m => mayB n c (A (Q + 1) (fn + 3 * m)) (A (Q + 1) (fn + 3 * m + 1)) (A (Q + 1) (fn + 3 * m + 2))) K m).2.2)), some (.int (nI (sc (fun m => decide (fn + 3 * m + 3 ≤ sz)) (fun m => mayB n c (A (Q + 1) (fn + 3 * m)) (A (Q + 1) (fn + 3 * m + 1)) (A (Q + 1) (fn + 3 * m + 2))) K m).2.1)), some (.int (nI 0)), l9'] [] (mk Lx F A J) = X → den mX6_read 49 [some (.ref 0), some (.int (nI k)), some (.int (nI ln)), some (.int (nI fn)), some (.int (nI nn)), some (.ref Q), some (.int (nI 0)), some (.int (nI m)), some (.int (nI m)), l9] [] (mk Lx F A J) = X) := by
  have hq : Q + 1 ≤ dN := by rcases hQ with rfl | rfl | rfl | rfl <;> decide
  intro K
  induction K with
  | zero =>
    intro m l9 hm hf
    have hlt : ¬ m < nn := by omega
    rw [sc]
    refine ⟨(fun h => by cases h), fun _ => ⟨l9, fun X hX => ?_⟩⟩
    rw [hX6_read_49]
    simp (disch := omega) only [SX6_read_0, SX6_read_1, SX6_read_2, nI_ltI, hlt, hX, Option.bind_some, Option.bind_none, if_true, if_false, zr0, zr1, one11, one01, one0, one1, Option.toList_some, Option.toList_none, List.cons_append, List.nil_append, Nat.reduceEqDiff, Nat.reduceAdd, not_false_eq_true, not_true_eq_false, and_true, true_and, and_false, false_and, or_true, true_or, or_false, false_or, and_self, or_self, Bool.false_eq_true]
  | succ K ih =>
    intro m l9 hm hf
    have hlt : m < nn := by omega
    have cf := c_fault (Lx := Lx) (F := F) (A := A) (J := J) hQ s1 s2 hs hf
    rw [sc]
    by_cases g : fn + 3 * m + 3 ≤ sz
    · rw [if_pos (decide_eq_true g)]
      rw [if_pos g] at cf
      obtain ⟨b, b1, b2⟩ := c_mayChange (Lx := Lx) (J := J) isP_12 hX hv (A (Q + 1) (fn + 3 * m)) (A (Q + 1) (fn + 3 * m + 1)) (A (Q + 1) (fn + 3 * m + 2))
      rcases b2 with ⟨rfl, hc⟩ | ⟨rfl, hc⟩
      · rw [if_pos (mayB_iff.mpr hc)]
        obtain ⟨i1, i2⟩ := ih (m + 1) (some (.int (nI (fn + 3 * m)))) (by omega) (by omega)
        refine ⟨fun h => ?_, fun h => ?_⟩
        · have e := i1 h
          rw [hX6_read_49]
          simp (disch := omega) only [SX6_read_0, SX6_read_1, SX6_read_2, G0, Gs hQ, Os hQ, Op isP_12, hq, nI_ltI, hlt, nI_m, nI_add, cf, as1 hQ, b1, e, Option.bind_some, Option.bind_none, if_true, if_false, zr0, zr1, one11, one01, one0, one1, Option.toList_some, Option.toList_none, List.cons_append, List.nil_append, Nat.reduceEqDiff, Nat.reduceAdd, not_false_eq_true, not_true_eq_false, and_true, true_and, and_false, false_and, or_true, true_or, or_false, false_or, and_self, or_self, Bool.false_eq_true]
        · obtain ⟨l9', e⟩ := i2 h
          refine ⟨l9', fun X hX => ?_⟩
          have e := e X hX
          rw [hX6_read_49]
          simp (disch := omega) only [SX6_read_0, SX6_read_1, SX6_read_2, G0, Gs hQ, Os hQ, Op isP_12, hq, nI_ltI, hlt, nI_m, nI_add, cf, as1 hQ, b1, e, Option.bind_some, Option.bind_none, if_true, if_false, zr0, zr1, one11, one01, one0, one1, Option.toList_some, Option.toList_none, List.cons_append, List.nil_append, Nat.reduceEqDiff, Nat.reduceAdd, not_false_eq_true, not_true_eq_false, and_true, true_and, and_false, false_and, or_true, true_or, or_false, false_or, and_self, or_self, Bool.false_eq_true]
      · rw [if_neg (fun z => hc (mayB_iff.mp z))]
        refine ⟨fun _ => ?_, (fun h => by cases h)⟩
        rw [hX6_read_49]
        simp (disch := omega) only [SX6_read_0, SX6_read_1, SX6_read_2, G0, Gs hQ, Os hQ, Op isP_12, hq, nI_ltI, hlt, nI_m, nI_add, cf, as1 hQ, b1, Option.bind_some, Option.bind_none, if_true, if_false, zr0, zr1, one11, one01, one0, one1, Option.toList_some, Option.toList_none, List.cons_append, List.nil_append, Nat.reduceEqDiff, Nat.reduceAdd, not_false_eq_true, not_true_eq_false, and_true, true_and, and_false, false_and, or_true, true_or, or_false, false_or, and_self, or_self, Bool.false_eq_true]
    · rw [if_neg (by rw [decide_eq_true_eq]; exact g)]
      rw [if_neg g] at cf
      refine ⟨(fun h => by cases h), fun _ => ⟨some (.int (nI (fn + 3 * m))), fun X hX => ?_⟩⟩
      rw [hX6_read_49]
      by_cases h2 : m + 1 < nn
      · simp (disch := omega) only [SX6_read_0, SX6_read_1, SX6_read_2, Os hQ, nI_ltI, hlt, nI_m, nI_add, cf, two0, hX6_read_49, h2, hX, Option.bind_some, Option.bind_none, if_true, if_false, zr0, zr1, one11, one01, one0, one1, Option.toList_some, Option.toList_none, List.cons_append, List.nil_append, Nat.reduceEqDiff, Nat.reduceAdd, not_false_eq_true, not_true_eq_false, and_true, true_and, and_false, false_and, or_true, true_or, or_false, false_or, and_self, or_self, Bool.false_eq_true]
      · simp (disch := omega) only [SX6_read_0, SX6_read_1, SX6_read_2, Os hQ, nI_ltI, hlt, nI_m, nI_add, cf, two0, hX6_read_49, h2, hX, Option.bind_some, Option.bind_none, if_true, if_false, zr0, zr1, one11, one01, one0, one1, Option.toList_some, Option.toList_none, List.cons_append, List.nil_append, Nat.reduceEqDiff, Nat.reduceAdd, not_false_eq_true, not_true_eq_false, and_true, true_and, and_false, false_and, or_true, true_or, or_false, false_or, and_self, or_self, Bool.false_eq_true]
end READ6
