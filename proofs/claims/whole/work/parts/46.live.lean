/-! what is read yet -/
/-- instruction i reads variable v -/
def rds (c : Nat → Nat → Nat) (i v : Nat) : Bool := if c i 0 = 0 then false else if c i 0 = 5 then c i 1 == v else (c i 2 == v || c i 3 == v)
/-- variable v is read yet, from instruction i on, k of them left, by the guards that hold -/
def rdF (c : Nat → Nat → Nat) (ou : Nat) (H : Nat → Bool) : Nat → Nat → Nat → Bool
  | 0, _, v => ou.testBit v
  | k + 1, i, v => if H (c i 4) = true then (rds c i v || (!(c i 0 != 5 && c i 1 == v) && rdF c ou H k (i + 1) v)) else rdF c ou H k (i + 1) v
/-- instruction i (no if) is live by the guards that hold -/
def lvb (c : Nat → Nat → Nat) (n ou : Nat) (H : Nat → Bool) (i : Nat) : Bool := H (c i 4) && rdF c ou H (n - (i + 1)) (i + 1) (c i 1)
theorem clr_ok : ∀ r : Nat, r < 256 → ∀ t : Nat, t < 8 → nI r &&& (nI (2 ^ t) ^^^ (-1)) = nI (r &&& (255 ^^^ 2 ^ t)) := by decide +kernel
theorem clr_bit : ∀ r : Nat, r < 256 → ∀ t : Nat, t < 8 → ∀ v : Nat, v < 8 → (r &&& (255 ^^^ 2 ^ t)).testBit v = (r.testBit v && !(t == v)) := by decide +kernel
theorem clr_lt {r t : Nat} (h : r < 256) : r &&& (255 ^^^ 2 ^ t) < 256 := Nat.lt_of_le_of_lt Nat.and_le_left h
theorem and_pow_e0 {r t : Nat} : r &&& 2 ^ t = 0 ↔ r.testBit t = false := by
  constructor
  · intro e
    have h1 : (r &&& 2 ^ t).testBit t = false := by rw [e]; simp
    simpa [Nat.testBit_and, Nat.testBit_two_pow] using h1
  · intro e
    apply Nat.eq_of_testBit_eq
    intro i
    rw [Nat.testBit_and, Nat.testBit_two_pow, Nat.zero_testBit]
    by_cases h : t = i
    · subst h; simp [e]
    · simp [h]
/-- the reads of an instruction as bits -/
def rdm (c : Nat → Nat → Nat) (i : Nat) : Nat := if c i 0 = 0 then 0 else if c i 0 = 5 then 2 ^ c i 1 else 2 ^ c i 2 ||| 2 ^ c i 3
theorem rdm_bit (c : Nat → Nat → Nat) (i v : Nat) : (rdm c i).testBit v = rds c i v := by
  unfold rdm rds
  split
  · simp
  · split
    · rw [Nat.testBit_two_pow]
      by_cases e : c i 1 = v <;> simp [e]
    · rw [Nat.testBit_or, Nat.testBit_two_pow, Nat.testBit_two_pow]
      by_cases e : c i 2 = v <;> by_cases e2 : c i 3 = v <;> simp [e, e2]
section LIVE
variable {Lx : Nat} {F A : Nat → Nat → Int32} {J : Nat → Nat → Int64} {P n ou : Nat} {c : Nat → Nat → Nat} {ws : Nat → Nat}
theorem rdm_lt (hv : PV n c ws ou) {i : Nat} (hi : i < n) : rdm c i < 256 := by
  have hb := hv.b hi
  have hs := (hv.2.2.2.1 i hi).2.2.1
  unfold rdm
  split
  · decide
  · rename_i e0
    split
    · exact Nat.lt_of_lt_of_le (pow2_lt (show c i 1 < 8 by omega)) (by decide)
    · rename_i e5
      rw [if_neg e0, if_neg e5] at hs
      exact Nat.or_lt_two_pow (n := 8) (pow2_lt (by omega)) (pow2_lt (by omega))
theorem l_liveByWay (hP : isP P) (h : XP F A P n c ws ou) (hv : PV n c ws ou) {H : Nat → Bool} {R : Nat} (hR : R < 2 ^ 13) (hRb : ∀ g, g ≤ 12 → R.testBit g = H g) : ∀ i f r (l5 : Option Value), i ≤ n → f < 2 ^ 24 → r < 256 → (∀ j, j < i → f.testBit j = false) → (∀ j, i ≤ j → j < n → f.testBit j = (c j 0 != 5 && lvb c n ou H j)) → (∀ v, v < 8 → r.testBit v = rdF c ou H (n - i) i v) → ∃ f' : Nat, den mX1_liveByWay 15 [some (.ref P), some (.int (nI R)), some (.int (nI f)), some (.int (nI r)), some (.int (nI i - nI 1)), l5] [] (mk Lx F A J) = some (some (.int (nI f')), mk Lx F A J) ∧ f' < 2 ^ 24 ∧ ∀ j, j < n → f'.testBit j = (c j 0 != 5 && lvb c n ou H j) := by
  have hn := hv.1
  intro i
  induction i with
  | zero =>
    intro f r l5 hi hf hr hlo hhi hrd
    refine ⟨f, ?_, hf, fun j hj => hhi j (Nat.zero_le j) hj⟩
    have e : nI 0 - nI 1 < 0 := by decide
    rw [hX1_liveByWay_15]
    simp only [SX1_liveByWay_0, SX1_liveByWay_1, e, Option.bind_some, Option.bind_none, if_true, if_false, zr0, zr1, one11, one01, one0, one1, Option.toList_some, Option.toList_none, List.cons_append, List.nil_append, Nat.reduceEqDiff, Nat.reduceAdd, not_false_eq_true, not_true_eq_false, and_true, true_and, and_false, false_and, or_true, true_or, or_false, false_or, and_self, or_self, Bool.false_eq_true]
  | succ i ih =>
    intro f r l5 hi hf hr hlo hhi hrd
    have hin : i < n := by omega
    have hb := hv.b hin
    obtain ⟨x0, x1, x2, x3, x4⟩ := h.2.2.2.1 i hin
    have hdec : nI (i + 1) - nI 1 = nI i := by rw [nI_s (by omega)]; rfl
    have hm1 : nI i + (-1) = nI i - nI 1 := by
      have : ∀ k : Nat, k < 25 → nI k + (-1) = nI k - nI 1 := by decide +kernel
      exact this i (by omega)
    have hRg : R.testBit (c i 4) = H (c i 4) := hRb _ (by omega)
    have hsplit : n - i = (n - (i + 1)) + 1 := by omega
    rw [hX1_liveByWay_15, hdec]
    cases hh : H (c i 4)
    · rw [hh] at hRg
      have hstep : ∀ v, rdF c ou H (n - i) i v = rdF c ou H (n - (i + 1)) (i + 1) v := fun v => by rw [hsplit, rdF, hh]; rfl
      obtain ⟨f', p1, p2, p3⟩ := ih f r l5 (by omega) hf hr (fun j hj => hlo j (by omega)) (fun j h1 h2 => by
        by_cases e : j = i
        · subst e
          rw [hlo j (by omega)]
          unfold lvb
          rw [hh]
          simp
        · exact hhi j (by omega) h2) (fun v hv8 => by rw [hrd v hv8, hstep])
      refine ⟨f', ?_, p2, p3⟩
      simp (disch := omega) only [SX1_liveByWay_0, SX1_liveByWay_1, Gp hP, lep hP, ap5 hP, x4, nI_l0, bit_e0, hRg, hm1, Option.bind_some, Option.bind_none, if_true, if_false, zr0, zr1, one11, one01, one0, one1, Option.toList_some, Option.toList_none, List.cons_append, List.nil_append, Nat.reduceEqDiff, Nat.reduceAdd, not_false_eq_true, not_true_eq_false, and_true, true_and, and_false, false_and, or_true, true_or, or_false, false_or, and_self, or_self, Bool.false_eq_true]
      exact p1
    · rw [hh] at hRg
      have hrdm := rdm_lt hv hin
      have hro : (if c i 0 = 0 then 0 else if c i 0 = 5 then 2 ^ c i 1 else 2 ^ c i 2 ||| 2 ^ c i 3) = rdm c i := rfl
      by_cases e5 : c i 0 = 5
      · have hstep : ∀ v, rdF c ou H (n - i) i v = (rds c i v || rdF c ou H (n - (i + 1)) (i + 1) v) := fun v => by rw [hsplit, rdF, hh]; simp [e5]
        obtain ⟨f', p1, p2, p3⟩ := ih f (r ||| rdm c i) l5 (by omega) hf (Nat.or_lt_two_pow (n := 8) hr hrdm) (fun j hj => hlo j (by omega)) (fun j h1 h2 => by
          by_cases e : j = i
          · subst e
            rw [hlo j (by omega), e5]
            rfl
          · exact hhi j (by omega) h2) (fun v hv8 => by rw [Nat.testBit_or, rdm_bit, hrd v hv8, hstep, Bool.or_comm])
        refine ⟨f', ?_, p2, p3⟩
        simp (disch := omega) only [SX1_liveByWay_0, SX1_liveByWay_1, Gp hP, Op hP, lep hP, ap5 hP, ap1 hP, x0, x4, nI_l0, nI_eq, bit_e0, hRg, e5, c_readsOf hP h hv hin, fa_or, hm1, Option.bind_some, Option.bind_none, if_true, if_false, zr0, zr1, one11, one01, one0, one1, Option.toList_some, Option.toList_none, List.cons_append, List.nil_append, Nat.reduceEqDiff, Nat.reduceAdd, not_false_eq_true, not_true_eq_false, and_true, true_and, and_false, false_and, or_true, true_or, or_false, false_or, and_self, or_self, Bool.false_eq_true]
        have hro5 : (if (5 : Nat) = 0 then 0 else if (5 : Nat) = 5 then 2 ^ c i 1 else 2 ^ c i 2 ||| 2 ^ c i 3) = rdm c i := by rw [← hro, e5]
        simp only [Option.bind_some, Option.bind_none, if_true, if_false, zr0, zr1, one11, one01, one0, one1, Option.toList_some, Option.toList_none, List.cons_append, List.nil_append, Nat.reduceEqDiff, Nat.reduceAdd, not_false_eq_true, not_true_eq_false, and_true, true_and, and_false, false_and, or_true, true_or, or_false, false_or, and_self, or_self, Bool.false_eq_true] at hro5
        rw [hro5]
        exact p1
      · have hne5 : (c i 0 != 5) = true := by simp [e5]
        have ht8 : c i 1 < 8 := by omega
        have hstep : ∀ v, rdF c ou H (n - i) i v = (rds c i v || (!(c i 1 == v) && rdF c ou H (n - (i + 1)) (i + 1) v)) := fun v => by rw [hsplit, rdF, hh, hne5]; simp
        have hlv : lvb c n ou H i = rdF c ou H (n - (i + 1)) (i + 1) (c i 1) := by unfold lvb; rw [hh]; rfl
        have hrt : r.testBit (c i 1) = lvb c n ou H i := by rw [hlv]; exact hrd _ ht8
        have hr2 : (r &&& (255 ^^^ 2 ^ c i 1)) ||| rdm c i < 256 := Nat.or_lt_two_pow (n := 8) (clr_lt hr) hrdm
        have hrd2 : ∀ v, v < 8 → ((r &&& (255 ^^^ 2 ^ c i 1)) ||| rdm c i).testBit v = rdF c ou H (n - i) i v := fun v hv8 => by
          rw [Nat.testBit_or, rdm_bit, clr_bit r hr _ ht8 v hv8, hrd v hv8, hstep, Bool.or_comm, Bool.and_comm]
        have hand : r &&& 2 ^ c i 1 < 2 ^ 31 := Nat.lt_of_le_of_lt Nat.and_le_left (by omega)
        cases hl : lvb c n ou H i
        · rw [hl] at hrt
          have hz : r &&& 2 ^ c i 1 = 0 := and_pow_e0.mpr hrt
          obtain ⟨f', p1, p2, p3⟩ := ih f ((r &&& (255 ^^^ 2 ^ c i 1)) ||| rdm c i) (some (.int (nI (2 ^ c i 1)))) (by omega) hf hr2 (fun j hj => hlo j (by omega)) (fun j h1 h2 => by
            by_cases e : j = i
            · subst e
              rw [hlo j (by omega), hl, Bool.and_false]
            · exact hhi j (by omega) h2) hrd2
          refine ⟨f', ?_, p2, p3⟩
          simp (disch := omega) only [SX1_liveByWay_0, SX1_liveByWay_1, Gp hP, Op hP, lep hP, ap5 hP, ap1 hP, ap2 hP, x0, x1, x4, nI_l0, nI_eq, bit_e0, hRg, e5, shl1, fa_and, hz, one0, clr_ok, c_readsOf hP h hv hin, fa_or, hm1, Option.bind_some, Option.bind_none, if_true, if_false, zr0, zr1, one11, one01, one0, one1, Option.toList_some, Option.toList_none, List.cons_append, List.nil_append, Nat.reduceEqDiff, Nat.reduceAdd, not_false_eq_true, not_true_eq_false, and_true, true_and, and_false, false_and, or_true, true_or, or_false, false_or, and_self, or_self, Bool.false_eq_true]
          simp only [e5, Option.bind_some, Option.bind_none, if_true, if_false, zr0, zr1, one11, one01, one0, one1, Option.toList_some, Option.toList_none, List.cons_append, List.nil_append, Nat.reduceEqDiff, Nat.reduceAdd, not_false_eq_true, not_true_eq_false, and_true, true_and, and_false, false_and, or_true, true_or, or_false, false_or, and_self, or_self, Bool.false_eq_true] at hro
          rw [hro]
          exact p1
        · rw [hl] at hrt
          have hz : ¬ r &&& 2 ^ c i 1 = 0 := fun z => by
            have := and_pow_e0.mp z
            rw [hrt] at this
            cases this
          have hf2 : f ||| 2 ^ i < 2 ^ 24 := Nat.or_lt_two_pow hf (pow2_lt (by omega))
          obtain ⟨f', p1, p2, p3⟩ := ih (f ||| 2 ^ i) ((r &&& (255 ^^^ 2 ^ c i 1)) ||| rdm c i) (some (.int (nI (2 ^ c i 1)))) (by omega) hf2 hr2 (fun j hj => by
              rw [Nat.testBit_or, Nat.testBit_two_pow, hlo j (by omega)]
              simp
              omega) (fun j h1 h2 => by
            rw [Nat.testBit_or, Nat.testBit_two_pow]
            by_cases e : j = i
            · subst e
              rw [hl, hne5]
              simp
            · rw [hhi j (by omega) h2]
              have : decide (i = j) = false := by simp; omega
              rw [this, Bool.or_false]) hrd2
          refine ⟨f', ?_, p2, p3⟩
          simp (disch := omega) only [SX1_liveByWay_0, SX1_liveByWay_1, Gp hP, Op hP, lep hP, ap5 hP, ap1 hP, ap2 hP, x0, x1, x4, nI_l0, nI_eq, nI_e0, bit_e0, hRg, e5, shl1, fa_and, hz, clr_ok, c_readsOf hP h hv hin, fa_or, hm1, Option.bind_some, Option.bind_none, if_true, if_false, zr0, zr1, one11, one01, one0, one1, Option.toList_some, Option.toList_none, List.cons_append, List.nil_append, Nat.reduceEqDiff, Nat.reduceAdd, not_false_eq_true, not_true_eq_false, and_true, true_and, and_false, false_and, or_true, true_or, or_false, false_or, and_self, or_self, Bool.false_eq_true]
          simp only [e5, Option.bind_some, Option.bind_none, if_true, if_false, zr0, zr1, one11, one01, one0, one1, Option.toList_some, Option.toList_none, List.cons_append, List.nil_append, Nat.reduceEqDiff, Nat.reduceAdd, not_false_eq_true, not_true_eq_false, and_true, true_and, and_false, false_and, or_true, true_or, or_false, false_or, and_self, or_self, Bool.false_eq_true] at hro
          rw [hro]
          exact p1
end LIVE
