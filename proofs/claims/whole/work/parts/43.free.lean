/-! FREE IFS -/
def zI (b : Bool) : Int32 := match b with
  | true => nI 1
  | false => nI 0
theorem zIt : zI true = nI 1 := rfl
theorem zIf : zI false = nI 0 := rfl
theorem zI_0 (b : Bool) : zI b = 0 ↔ b = false := by cases b <;> decide
theorem zI_z (b : Bool) : (zI b = 0 ∨ zI b = 1) ↔ True := by cases b <;> decide
theorem zI_n (b : Bool) : vp_nar .boolean (zI b) = zI b := by cases b <;> decide
theorem zI_fl (b : Bool) : (if zI b = 0 then nI 0 else nI 1) = zI b := by cases b <;> decide
theorem zI_fn (b : Bool) : (if zI b = 0 then nI 1 else nI 0) = zI (!b) := by cases b <;> decide
def anyF (p : Nat → Bool) : Nat → Nat → Bool
  | _, 0 => false
  | i, k + 1 => p i || anyF p (i + 1) k
theorem anyF_cong {p q : Nat → Bool} : ∀ {k i : Nat}, (∀ j, i ≤ j → j < i + k → p j = q j) → anyF p i k = anyF q i k
  | 0, _, _ => rfl
  | k + 1, i, h => by rw [anyF, anyF, h i (Nat.le_refl i) (by omega), anyF_cong (fun j h1 h2 => h j (by omega) (by omega))]
theorem anyF_iff {p : Nat → Bool} : ∀ {k i : Nat}, anyF p i k = true ↔ ∃ j, i ≤ j ∧ j < i + k ∧ p j = true
  | 0, i => ⟨fun h => (by cases h), fun ⟨j, h1, h2, _⟩ => absurd h2 (by omega)⟩
  | k + 1, i => by
    rw [anyF, Bool.or_eq_true, anyF_iff]
    constructor
    · rintro (h | ⟨j, h1, h2, h3⟩)
      · exact ⟨i, Nat.le_refl i, by omega, h⟩
      · exact ⟨j, by omega, by omega, h3⟩
    · rintro ⟨j, h1, h2, h3⟩
      by_cases e : j = i
      · subst e; exact Or.inl h3
      · exact Or.inr ⟨j, by omega, by omega, h3⟩
/-- whether guard g holds when the ifs go as w tells -/
def hb (c : Nat → Nat → Nat) (n : Nat) : Nat → Nat → Nat → Bool
  | 0, _, _ => true
  | k + 1, w, g => if g = 0 then true else (w.testBit ((g - 1) / 2) == decide (g % 2 = 1)) && hb c n k w (par c n g)
theorem hb_fuel {n ou : Nat} {c : Nat → Nat → Nat} {ws : Nat → Nat} (hv : PV n c ws ou) (w : Nat) : ∀ k g, g ≤ 2 * nif c n → (g + 1) / 2 ≤ k → hb c n (k + 1) w g = hb c n k w g
  | 0, g, hg, hk => by
    have : g = 0 := by omega
    subst this
    rfl
  | k + 1, g, hg, hk => by
    rw [hb]
    conv => rhs; rw [hb]
    by_cases e : g = 0
    · rw [if_pos e, if_pos e]
    · rw [if_neg e, if_neg e, hb_fuel hv w k (par c n g) (par_lt hv (by omega) hg).2.2.1 (by have := par_lt hv (by omega) hg; omega)]
theorem hb_step {n ou : Nat} {c : Nat → Nat → Nat} {ws : Nat → Nat} (hv : PV n c ws ou) (w : Nat) {g : Nat} (h0 : 0 < g) (hg : g ≤ 2 * nif c n) : hb c n 6 w g = ((w.testBit ((g - 1) / 2) == decide (g % 2 = 1)) && hb c n 6 w (par c n g)) := by
  have hn6 := hv.2.1
  have hp := par_lt hv h0 hg
  rw [← hb_fuel hv w 6 g hg (by omega), hb, if_neg (by omega)]
theorem hb_0 (c : Nat → Nat → Nat) (n w : Nat) : hb c n 6 w 0 = true := rfl
theorem sub_div2 (g : Nat) : g - g / 2 * 2 = g % 2 := by omega
section FREE
variable {Lx : Nat} {F A : Nat → Nat → Int32} {J : Nat → Nat → Int64} {P n ou : Nat} {c : Nat → Nat → Nat} {ws : Nat → Nat}
theorem bit_eq {m k : Nat} (hm : m < 2 ^ 31) (hk : k < 32) : ((nI m >>> (nI k &&& 31)) &&& nI 1 = nI 1) ↔ m.testBit k = true := by
  rw [bit_at hm hk]
  by_cases h : m.testBit k = true
  · simp [h]
  · simp [h]; decide
theorem bit_e0 {m k : Nat} (hm : m < 2 ^ 31) (hk : k < 32) : ((nI m >>> (nI k &&& 31)) &&& nI 1 = 0) ↔ m.testBit k = false := by
  rw [bit_at hm hk]
  by_cases h : m.testBit k = true
  · simp [h]; decide
  · simp [h]; decide
theorem l_holdsBy (h : M0 (A 57) n c ws ou) (hv : PV n c ws ou) (g0 : Nat) {w : Nat} (hw : w < 64) : ∀ k (b : Bool) g, g ≤ 2 * nif c n → (g + 1) / 2 ≤ k → den mX7_holdsBy 5 [some (.ref 56), some (.int (nI g0)), some (.int (nI w)), some (.int (zI b)), some (.int (nI g))] [] (mk Lx F A J) = some (some (.int (zI (b && hb c n k w g))), mk Lx F A J) := by
  have hn6 := hv.2.1
  intro k
  induction k with
  | zero =>
    intro b g hg hk
    have hg0 : g = 0 := by omega
    subst hg0
    rw [hX7_holdsBy_5]
    simp (disch := omega) only [SX7_holdsBy, nI_g0, Nat.lt_irrefl, zI_z, Option.bind_some, Option.bind_none, if_true, if_false, zr0, zr1, one11, one01, one0, one1, Option.toList_some, Option.toList_none, List.cons_append, List.nil_append, Nat.reduceEqDiff, Nat.reduceAdd, not_false_eq_true, not_true_eq_false, and_true, true_and, and_false, false_and, or_true, true_or, or_false, false_or, and_self, or_self, Bool.false_eq_true, hb, Bool.and_true]
  | succ k ih =>
    intro b g hg hk
    rw [hX7_holdsBy_5]
    by_cases hc : g = 0
    · subst hc
      simp (disch := omega) only [SX7_holdsBy, nI_g0, Nat.lt_irrefl, zI_z, Option.bind_some, Option.bind_none, if_true, if_false, zr0, zr1, one11, one01, one0, one1, Option.toList_some, Option.toList_none, List.cons_append, List.nil_append, Nat.reduceEqDiff, Nat.reduceAdd, not_false_eq_true, not_true_eq_false, and_true, true_and, and_false, false_and, or_true, true_or, or_false, false_or, and_self, or_self, Bool.false_eq_true, hb, Bool.and_true]
    · have hp := par_lt hv (by omega) hg
      have hpos : 0 < g := by omega
      have hrem : g % 2 = 0 ∨ g % 2 = 1 := by omega
      have hbit : ((nI w >>> (nI ((g - 1) / 2) &&& 31)) &&& nI 1 = nI (g % 2)) ↔ (w.testBit ((g - 1) / 2) == decide (g % 2 = 1)) = true := by
        rw [bit_at (by omega) (by omega), nI_eq (by split <;> omega) (by omega)]
        rcases hrem with z | z
        · rw [z]
          cases w.testBit ((g - 1) / 2) <;> simp
        · rw [z]
          cases w.testBit ((g - 1) / 2) <;> simp
      cases b with
      | false =>
        have e1 : zI false = nI 0 := rfl
        simp (disch := omega) only [SX7_holdsBy, O56, nI_g0, hpos, hc, c_parentOfM h hv hg, e1, one0, Option.bind_some, Option.bind_none, if_true, if_false, zr0, zr1, one11, one01, one0, one1, Option.toList_some, Option.toList_none, List.cons_append, List.nil_append, Nat.reduceEqDiff, Nat.reduceAdd, not_false_eq_true, not_true_eq_false, and_true, true_and, and_false, false_and, or_true, true_or, or_false, false_or, and_self, or_self, Bool.false_eq_true]
        have := ih false (par c n g) hp.2.2.1 (by omega)
        rw [e1] at this
        rw [this]
        simp
      | true =>
        have e1 : zI true = nI 1 := rfl
        have e0 : zI false = nI 0 := rfl
        by_cases hbb : (w.testBit ((g - 1) / 2) == decide (g % 2 = 1)) = true
        · simp (disch := omega) only [SX7_holdsBy, O56, nI_g0, hpos, hc, c_parentOfM h hv hg, e1, one1, e2, nI_s, nI_d, nI_m, sub_div2, hbit, hbb, Option.bind_some, Option.bind_none, if_true, if_false, zr0, zr1, one11, one01, one0, one1, Option.toList_some, Option.toList_none, List.cons_append, List.nil_append, Nat.reduceEqDiff, Nat.reduceAdd, not_false_eq_true, not_true_eq_false, and_true, true_and, and_false, false_and, or_true, true_or, or_false, false_or, and_self, or_self, Bool.false_eq_true]
          have := ih true (par c n g) hp.2.2.1 (by omega)
          rw [e1] at this
          rw [this, hb, if_neg hc, hbb]
          simp
        · simp (disch := omega) only [SX7_holdsBy, O56, nI_g0, hpos, hc, c_parentOfM h hv hg, e1, one1, e2, nI_s, nI_d, nI_m, sub_div2, hbit, hbb, Option.bind_some, Option.bind_none, if_true, if_false, zr0, zr1, one11, one01, one0, one1, Option.toList_some, Option.toList_none, List.cons_append, List.nil_append, Nat.reduceEqDiff, Nat.reduceAdd, not_false_eq_true, not_true_eq_false, and_true, true_and, and_false, false_and, or_true, true_or, or_false, false_or, and_self, or_self, Bool.false_eq_true]
          have := ih false (par c n g) hp.2.2.1 (by omega)
          rw [e0] at this
          rw [this, hb, if_neg hc]
          simp [hbb]
theorem c_holdsBy (h : M0 (A 57) n c ws ou) (hv : PV n c ws ou) {g w : Nat} (hg : g ≤ 2 * nif c n) (hw : w < 64) : dcall mX7_holdsBy [.ref 56, .int (nI g), .int (nI w)] (mk Lx F A J) = some (some (.int (zI (hb c n 6 w g))), mk Lx F A J) := by
  have hn6 := hv.2.1
  have e1 : zI true = nI 1 := rfl
  have := l_holdsBy (Lx := Lx) (F := F) (J := J) h hv g hw 6 true g hg (by omega)
  rw [e1, Bool.true_and] at this
  simp only [CX7_holdsBy, SX7_holdsBy]
  exact this
theorem pow2_lt {a b : Nat} (h : a < b) : 2 ^ a < 2 ^ b := Nat.pow_lt_pow_right (by decide) h
theorem l_holding (hP : isP P) (h : XP F A P n c ws ou) (hv : PV n c ws ou) {w : Nat} (hw : w < 64) : ∀ k j H (l4 : Option Value), j + k = nif c n → H < 2 ^ (2 * j + 1) → (∀ g, g ≤ 2 * j → H.testBit g = hb c n 6 w g) → ∃ R : Nat, den mX1_holding 4 [some (.ref P), some (.int (nI w)), some (.int (nI H)), some (.int (nI j)), l4] [] (mk Lx F A J) = some (some (.int (nI R)), mk Lx F A J) ∧ R < 2 ^ (2 * nif c n + 1) ∧ ∀ g, g ≤ 2 * nif c n → R.testBit g = hb c n 6 w g := by
  have hn6 := hv.2.1
  intro k
  induction k with
  | zero =>
    intro j H l4 hj hH hbits
    have : ¬ j < nif c n := by omega
    have hj2 : j = nif c n := by omega
    subst hj2
    refine ⟨H, ?_, hH, hbits⟩
    rw [hX1_holding_4]
    simp (disch := omega) only [SX1_holding_0, SX1_holding_1, Gp hP, h.2.1, nI_ltI, this, Option.bind_some, Option.bind_none, if_true, if_false, zr0, zr1, one11, one01, one0, one1, Option.toList_some, Option.toList_none, List.cons_append, List.nil_append, Nat.reduceEqDiff, Nat.reduceAdd, not_false_eq_true, not_true_eq_false, and_true, true_and, and_false, false_and, or_true, true_or, or_false, false_or, and_self, or_self, Bool.false_eq_true]
  | succ k ih =>
    intro j H l4 hj hH hbits
    have hlt : j < nif c n := by omega
    have hp := par_lt hv (g := 2 * j + 1) (by omega) (by omega)
    have hpe : par c n (2 * j + 2) = par c n (2 * j + 1) := by
      unfold par
      rw [show (2 * j + 2 - 1) / 2 = j by omega, show (2 * j + 1 - 1) / 2 = j by omega]
    have hH31 : H < 2 ^ 31 := Nat.lt_trans hH (pow2_lt (by omega))
    have hpar0 : ¬ 2 * j + 1 = 0 := by omega
    have hg1 : 2 * j + 1 ≤ 2 * nif c n := by omega
    have hparb : H.testBit (par c n (2 * j + 1)) = hb c n 6 w (par c n (2 * j + 1)) := hbits _ (by omega)
    have s1 := hb_step hv w (g := 2 * j + 1) (by omega) (by omega)
    have s2 := hb_step hv w (g := 2 * j + 2) (by omega) (by omega)
    rw [show (2 * j + 1 - 1) / 2 = j by omega, show (2 * j + 1) % 2 = 1 by omega] at s1
    rw [show (2 * j + 2 - 1) / 2 = j by omega, show (2 * j + 2) % 2 = 0 by omega, hpe] at s2
    have hbig : ∀ g, 2 * j + 1 ≤ g → H.testBit g = false := fun g hg => Nat.testBit_lt_two_pow (Nat.lt_of_lt_of_le hH (Nat.pow_le_pow_right (by decide) hg))
    rw [hX1_holding_4]
    by_cases hold : H.testBit (par c n (2 * j + 1)) = true
    · rw [hparb] at hold
      have hold2 : H.testBit (par c n (2 * j + 1)) = true := by rw [hparb]; exact hold
      rw [hold] at s1 s2
      by_cases hbit : w.testBit j = true
      · rw [hbit] at s1 s2
        have hlt2 : H ||| 2 ^ (2 * j + 1) < 2 ^ (2 * (j + 1) + 1) := Nat.or_lt_two_pow (Nat.lt_trans hH (pow2_lt (by omega))) (pow2_lt (by omega))
        obtain ⟨R, r1, r2, r3⟩ := ih (j + 1) (H ||| 2 ^ (2 * j + 1)) (some (.int (nI (2 * j + 1)))) (by omega) hlt2 (fun g hg => by
          rw [Nat.testBit_or, Nat.testBit_two_pow]
          by_cases e1 : g = 2 * j + 1
          · subst e1; rw [s1]; simp
          · by_cases e2 : g = 2 * j + 2
            · subst e2; rw [s2, hbig _ (by omega)]; simp
            · rw [hbits g (by omega)]; simp; omega)
        refine ⟨R, ?_, r2, r3⟩
        simp (disch := omega) only [SX1_holding_0, SX1_holding_1, Gp hP, Op hP, h.2.1, nI_ltI, hlt, nI_m, nI_add, c_parentOf hP h hv hg1, hpar0, bit_eq, hold2, hbit, shl1, fa_or, Option.bind_some, Option.bind_none, if_true, if_false, zr0, zr1, one11, one01, one0, one1, Option.toList_some, Option.toList_none, List.cons_append, List.nil_append, Nat.reduceEqDiff, Nat.reduceAdd, not_false_eq_true, not_true_eq_false, and_true, true_and, and_false, false_and, or_true, true_or, or_false, false_or, and_self, or_self, Bool.false_eq_true]
        exact r1
      · have hbit2 : w.testBit j = false := by simpa using hbit
        rw [hbit2] at s1 s2
        have hlt2 : H ||| 2 ^ (2 * j + 2) < 2 ^ (2 * (j + 1) + 1) := Nat.or_lt_two_pow (Nat.lt_trans hH (pow2_lt (by omega))) (pow2_lt (by omega))
        obtain ⟨R, r1, r2, r3⟩ := ih (j + 1) (H ||| 2 ^ (2 * j + 2)) (some (.int (nI (2 * j + 1)))) (by omega) hlt2 (fun g hg => by
          rw [Nat.testBit_or, Nat.testBit_two_pow]
          by_cases e1 : g = 2 * j + 1
          · subst e1; rw [s1, hbig _ (by omega)]; simp
          · by_cases e2 : g = 2 * j + 2
            · subst e2; rw [s2]; simp
            · rw [hbits g (by omega)]; simp; omega)
        refine ⟨R, ?_, r2, r3⟩
        simp (disch := omega) only [SX1_holding_0, SX1_holding_1, Gp hP, Op hP, h.2.1, nI_ltI, hlt, nI_m, nI_add, c_parentOf hP h hv hg1, hpar0, bit_eq, hold2, hbit, shl1, fa_or, Option.bind_some, Option.bind_none, if_true, if_false, zr0, zr1, one11, one01, one0, one1, Option.toList_some, Option.toList_none, List.cons_append, List.nil_append, Nat.reduceEqDiff, Nat.reduceAdd, not_false_eq_true, not_true_eq_false, and_true, true_and, and_false, false_and, or_true, true_or, or_false, false_or, and_self, or_self, Bool.false_eq_true]
        exact r1
    · have hold3 : hb c n 6 w (par c n (2 * j + 1)) = false := by rw [← hparb]; simpa using hold
      rw [hold3, Bool.and_false] at s1 s2
      have hlt2 : H < 2 ^ (2 * (j + 1) + 1) := Nat.lt_trans hH (pow2_lt (by omega))
      obtain ⟨R, r1, r2, r3⟩ := ih (j + 1) H (some (.int (nI (2 * j + 1)))) (by omega) hlt2 (fun g hg => by
          by_cases e1 : g = 2 * j + 1
          · subst e1; rw [s1, hbig _ (by omega)]
          · by_cases e2 : g = 2 * j + 2
            · subst e2; rw [s2, hbig _ (by omega)]
            · exact hbits g (by omega))
      refine ⟨R, ?_, r2, r3⟩
      simp (disch := omega) only [SX1_holding_0, SX1_holding_1, Gp hP, Op hP, h.2.1, nI_ltI, hlt, nI_m, nI_add, c_parentOf hP h hv hg1, hpar0, bit_eq, hold, Option.bind_some, Option.bind_none, if_true, if_false, zr0, zr1, one11, one01, one0, one1, Option.toList_some, Option.toList_none, List.cons_append, List.nil_append, Nat.reduceEqDiff, Nat.reduceAdd, not_false_eq_true, not_true_eq_false, and_true, true_and, and_false, false_and, or_true, true_or, or_false, false_or, and_self, or_self, Bool.false_eq_true]
      exact r1
theorem c_holding (hP : isP P) (h : XP F A P n c ws ou) (hv : PV n c ws ou) {w : Nat} (hw : w < 64) : ∃ R : Nat, dcall mX1_holding [.ref P, .int (nI w)] (mk Lx F A J) = some (some (.int (nI R)), mk Lx F A J) ∧ R < 2 ^ (2 * nif c n + 1) ∧ ∀ g, g ≤ 2 * nif c n → R.testBit g = hb c n 6 w g := by
  obtain ⟨R, r1, r2⟩ := l_holding (Lx := Lx) (F := F) (A := A) (J := J) hP h hv hw (nif c n) 0 1 none (by omega) (by decide) (fun g hg => by
    have : g = 0 := by omega
    subst this
    rfl)
  refine ⟨R, ?_, r2⟩
  simp only [CX1_holding, SX1_holding_0, SX1_holding_1]
  exact r1
theorem c_howManyWays (hP : isP P) (h : XP F A P n c ws ou) (hv : PV n c ws ou) : dcall mX1_howManyWays [.ref P] (mk Lx F A J) = some (some (.int (nI (2 ^ nif c n))), mk Lx F A J) := by
  have hn6 := hv.2.1
  simp (disch := omega) only [CX1_howManyWays, SX1_howManyWays, Gp hP, h.2.1, shl1, Option.bind_some, Option.bind_none, if_true, if_false, zr0, zr1, one11, one01, one0, one1, Option.toList_some, Option.toList_none, List.cons_append, List.nil_append, Nat.reduceEqDiff, Nat.reduceAdd, not_false_eq_true, not_true_eq_false, and_true, true_and, and_false, false_and, or_true, true_or, or_false, false_or, and_self, or_self, Bool.false_eq_true]
end FREE
