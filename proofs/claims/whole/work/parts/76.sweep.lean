/-! sweep: what goes in a round, round after round -/
def kpF (n : Nat) (c : Nat → Nat → Nat) (ou : Nat) (i : Nat) : Bool := decide (4 ≤ c i 0) || anyF (fun w => lvb c n ou (hb c n 6 w) i) 0 (2 ^ nif c n)
def swN (n : Nat) (c : Nat → Nat → Nat) (ou : Nat) : Nat := sN (kpF n c ou) n
def swC (n : Nat) (c : Nat → Nat → Nat) (ou : Nat) : Nat → Nat → Nat := sC (kpF n c ou) c n
def sw (ou : Nat) : Nat → Nat → (Nat → Nat → Nat) → Nat × (Nat → Nat → Nat)
  | 0, n, c => (swN n c ou, swC n c ou)
  | k + 1, n, c => if swN n c ou < n then sw ou k (swN n c ou) (swC n c ou) else (swN n c ou, swC n c ou)
theorem kp5 {n ou : Nat} {c : Nat → Nat → Nat} {i : Nat} (h : c i 0 = 5) : kpF n c ou i = true := by
  unfold kpF
  rw [h]
  rfl
theorem sw_PV {n ou : Nat} {c : Nat → Nat → Nat} {ws : Nat → Nat} (hv : PV n c ws ou) : PV (swN n c ou) (swC n c ou) ws ou := (s_PV hv (fun _ _ h => kp5 h)).1
theorem swN_le (n : Nat) (c : Nat → Nat → Nat) (ou : Nat) : swN n c ou ≤ n := sN_le _ n
theorem sw_all {ou : Nat} {ws : Nat → Nat} : ∀ k n (c : Nat → Nat → Nat), PV n c ws ou → PV (sw ou k n c).1 (sw ou k n c).2 ws ou ∧ (sw ou k n c).1 ≤ n := by
  intro k
  induction k with
  | zero => intro n c hv; exact ⟨sw_PV hv, swN_le n c ou⟩
  | succ k ih =>
    intro n c hv
    rw [sw]
    have := swN_le n c ou
    by_cases h : swN n c ou < n
    · rw [if_pos h]
      obtain ⟨g1, g2⟩ := ih _ _ (sw_PV hv)
      exact ⟨g1, by omega⟩
    · rw [if_neg h]
      exact ⟨sw_PV hv, this⟩
section SWEEP6
variable {Lx : Nat} {J : Nat → Nat → Int64} {ou : Nat} {ws : Nat → Nat}
theorem c_once6 {n : Nat} {c : Nat → Nat → Nat} {F A : Nat → Nat → Int32} (hX : XP F A 12 n c ws ou) (hv : PV n c ws ou) : ∃ (f : Nat) (F' A' : Nat → Nat → Int32), dcall mX1_liveOnes [.ref 12] (mk Lx F A J) = some (some (.int (nI f)), mk Lx F A J) ∧ dcall mX3_dropUnread [.ref 12, .int (nI f)] (mk Lx F A J) = some (some (.int (nI (n - swN n c ou))), mk Lx F' A' J) ∧ XP F' A' 12 (swN n c ou) (swC n c ou) ws ou ∧ (∀ p, p ≠ 12 → F' p = F p) ∧ ∀ q, (∀ d, 1 ≤ d → d ≤ 6 → q ≠ 12 + d) → A' q = A q := by
  obtain ⟨f, f1, f2, f3⟩ := c_liveOnes (Lx := Lx) (J := J) isP_12 hX hv
  obtain ⟨A', d1, d2, d3⟩ := c_drop (Lx := Lx) (J := J) (kp := kpF n c ou) isP_12 hX hv f2 (fun i hi => by
    have hb := (hv.b hi).1
    unfold kpF
    rw [f3 i hi, Bool.or_eq_true, decide_eq_true_eq, Bool.and_eq_true, bne_iff_ne]
    constructor
    · rintro (h | h)
      · omega
      · by_cases e5 : c i 0 = 5
        · exact Or.inr (Or.inl e5)
        · exact Or.inr (Or.inr ⟨e5, h⟩)
    · rintro (h | h | ⟨-, h⟩)
      · exact Or.inl (by omega)
      · exact Or.inl (by omega)
      · exact Or.inr h)
  exact ⟨f, _, A', f1, d1, d2, fun p hp => up_ne _ _ hp, d3⟩
theorem l_sweep6 {B : Nat} (hB : B ≤ 24) : ∀ k r w n (c : Nat → Nat → Nat) (F A : Nat → Nat → Int32), n ≤ k → 0 < w → w ≤ 24 → r + n ≤ 24 → n ≤ B → PV n c ws ou → XP F A 12 n c ws ou → ∃ F' A', den mX6_sweep 12 [some (.ref 0), some (.int (nI B)), some (.int (nI w)), some (.int (nI r))] [] (mk Lx F A J) = some (some (.int (nI (B - (sw ou k n c).1))), mk Lx F' A' J) ∧ XP F' A' 12 (sw ou k n c).1 (sw ou k n c).2 ws ou ∧ (∀ p, p ≠ 12 → F' p = F p) ∧ ∀ q, (∀ d, 1 ≤ d → d ≤ 6 → q ≠ 12 + d) → A' q = A q := by
  have last : ∀ r n (c : Nat → Nat → Nat) (F A : Nat → Nat → Int32), r ≤ 25 → n ≤ B → XP F A 12 n c ws ou → den mX6_sweep 12 [some (.ref 0), some (.int (nI B)), some (.int (nI 0)), some (.int (nI r))] [] (mk Lx F A J) = some (some (.int (nI (B - n))), mk Lx F A J) := by
    intro r n c F A hr hn hX
    rw [hX6_sweep_12]
    by_cases h : 24 < r
    · simp (disch := omega) only [SX6_sweep, G0, Gp isP_12, hX.1, nI_ltI, h, nI_s, Option.bind_some, Option.bind_none, if_true, if_false, zr0, zr1, one11, one01, one0, one1, Option.toList_some, Option.toList_none, List.cons_append, List.nil_append, Nat.reduceEqDiff, Nat.reduceAdd, not_false_eq_true, not_true_eq_false, and_true, true_and, and_false, false_and, or_true, true_or, or_false, false_or, and_self, or_self, Bool.false_eq_true]
    · simp (disch := omega) only [SX6_sweep, G0, Gp isP_12, hX.1, nI_ltI, nI_g0, Nat.lt_irrefl, h, nI_s, Option.bind_some, Option.bind_none, if_true, if_false, zr0, zr1, one11, one01, one0, one1, Option.toList_some, Option.toList_none, List.cons_append, List.nil_append, Nat.reduceEqDiff, Nat.reduceAdd, not_false_eq_true, not_true_eq_false, and_true, true_and, and_false, false_and, or_true, true_or, or_false, false_or, and_self, or_self, Bool.false_eq_true]
  intro k
  induction k with
  | zero =>
    intro r w n c F A hk h0 h24 hr hnB hv hX
    obtain ⟨f, F1, A1, f1, d1, d2, d3, d4⟩ := c_once6 (Lx := Lx) (J := J) hX hv
    have hle := swN_le n c ou
    have e := last (r + 1) _ _ F1 A1 (by omega) (by omega) d2
    refine ⟨F1, A1, ?_, d2, d3, d4⟩
    have z : n - swN n c ou = 0 := by omega
    rw [z] at d1
    have hr2 : ¬ 24 < r := by omega
    rw [hX6_sweep_12]
    simp (disch := omega) only [SX6_sweep, G0, Op isP_12, nI_ltI, hr2, nI_g0, h0, f1, d1, nI_add, e, sw, Option.bind_some, Option.bind_none, if_true, if_false, zr0, zr1, one11, one01, one0, one1, Option.toList_some, Option.toList_none, List.cons_append, List.nil_append, Nat.reduceEqDiff, Nat.reduceAdd, not_false_eq_true, not_true_eq_false, and_true, true_and, and_false, false_and, or_true, true_or, or_false, false_or, and_self, or_self, Bool.false_eq_true]
  | succ k ih =>
    intro r w n c F A hk h0 h24 hr hnB hv hX
    obtain ⟨f, F1, A1, f1, d1, d2, d3, d4⟩ := c_once6 (Lx := Lx) (J := J) hX hv
    have hle := swN_le n c ou
    have hr2 : ¬ 24 < r := by omega
    rw [sw]
    by_cases h : swN n c ou < n
    · rw [if_pos h]
      obtain ⟨F2, A2, i1, i2, i3, i4⟩ := ih (r + 1) (n - swN n c ou) _ _ F1 A1 (by omega) (by omega) (by have := hv.1; omega) (by omega) (by omega) (sw_PV hv) d2
      refine ⟨F2, A2, ?_, i2, fun p hp => by rw [i3 p hp, d3 p hp], fun q hq => by rw [i4 q hq, d4 q hq]⟩
      rw [hX6_sweep_12]
      simp (disch := omega) only [SX6_sweep, G0, Op isP_12, nI_ltI, hr2, nI_g0, h0, f1, d1, nI_add, i1, Option.bind_some, Option.bind_none, if_true, if_false, zr0, zr1, one11, one01, one0, one1, Option.toList_some, Option.toList_none, List.cons_append, List.nil_append, Nat.reduceEqDiff, Nat.reduceAdd, not_false_eq_true, not_true_eq_false, and_true, true_and, and_false, false_and, or_true, true_or, or_false, false_or, and_self, or_self, Bool.false_eq_true]
    · rw [if_neg h]
      have e := last (r + 1) _ _ F1 A1 (by omega) (by omega) d2
      refine ⟨F1, A1, ?_, d2, d3, d4⟩
      have z : n - swN n c ou = 0 := by omega
      rw [z] at d1
      rw [hX6_sweep_12]
      simp (disch := omega) only [SX6_sweep, G0, Op isP_12, nI_ltI, hr2, nI_g0, h0, f1, d1, nI_add, e, Option.bind_some, Option.bind_none, if_true, if_false, zr0, zr1, one11, one01, one0, one1, Option.toList_some, Option.toList_none, List.cons_append, List.nil_append, Nat.reduceEqDiff, Nat.reduceAdd, not_false_eq_true, not_true_eq_false, and_true, true_and, and_false, false_and, or_true, true_or, or_false, false_or, and_self, or_self, Bool.false_eq_true]
end SWEEP6
