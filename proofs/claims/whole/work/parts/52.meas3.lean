/-! an if is guarded by itself or by what it stands in -/
def guF (c : Nat → Nat → Nat) (n : Nat) (ws : Nat → Nat) : Nat → Nat → Bool
  | 0, j => alK c n ws (ipl c n j)
  | k + 1, j => alK c n ws (ipl c n j) || (decide (0 < par c n (2 * j + 1)) && guF c n ws k ((par c n (2 * j + 1) - 1) / 2))
def gu (c : Nat → Nat → Nat) (n : Nat) (ws : Nat → Nat) (j : Nat) : Bool := guF c n ws j j
section MEASG
variable {Lx : Nat} {F A : Nat → Nat → Int32} {J : Nat → Nat → Int64} {P n ou : Nat} {c : Nat → Nat → Nat} {ws : Nat → Nat}
theorem par_j (hv : PV n c ws ou) {j : Nat} (hj : j < nif c n) : par c n (2 * j + 1) ≤ 2 * j := by
  have := (par_lt hv (show 0 < 2 * j + 1 by omega) (by omega)).1
  omega
theorem guF_fuel (hv : PV n c ws ou) : ∀ k j, j ≤ k → j < nif c n → guF c n ws (k + 1) j = guF c n ws k j
  | 0, j, hk, hj => by
    have hp := par_j hv hj
    have e : decide (0 < par c n (2 * j + 1)) = false := decide_eq_false (by omega)
    rw [guF, guF, e, Bool.false_and, Bool.or_false]
  | k + 1, j, hk, hj => by
    have hp := par_j hv hj
    rw [guF]
    conv => rhs; rw [guF]
    by_cases e : 0 < par c n (2 * j + 1)
    · rw [guF_fuel hv k _ (by omega) (by omega)]
    · rw [decide_eq_false e, Bool.false_and, Bool.false_and]
theorem guF_gu (hv : PV n c ws ou) {j : Nat} (hj : j < nif c n) : ∀ e, guF c n ws (j + e) j = gu c n ws j
  | 0 => rfl
  | e + 1 => by rw [← Nat.add_assoc, guF_fuel hv _ j (by omega) hj, guF_gu hv hj e]
theorem gu_eq (hv : PV n c ws ou) {j : Nat} (hj : j < nif c n) : gu c n ws j = (alK c n ws (ipl c n j) || (decide (0 < par c n (2 * j + 1)) && gu c n ws ((par c n (2 * j + 1) - 1) / 2))) := by
  have hp := par_j hv hj
  rw [← guF_gu hv hj 1, guF]
  by_cases e : 0 < par c n (2 * j + 1)
  · have := guF_gu hv (j := (par c n (2 * j + 1) - 1) / 2) (by omega) (j - (par c n (2 * j + 1) - 1) / 2)
    rw [show (par c n (2 * j + 1) - 1) / 2 + (j - (par c n (2 * j + 1) - 1) / 2) = j by omega] at this
    rw [this]
  · rw [decide_eq_false e, Bool.false_and, Bool.false_and]
theorem two0 : (nI 2 = 0) ↔ False := by decide
theorem l_gi (hP : isP P) (hv : PV n c ws ou) : ∀ k j A (l3 : Option Value), j + k = nif c n → XP F A P n c ws ou → (∀ q, q < j → A 26 q = zI (gu c n ws q)) → (∀ q, j ≤ q → q < nif c n → A 26 q = zI (alK c n ws (ipl c n q))) → ∃ A', den mX0_guardInner 2 [some (.ref 22), some (.ref P), some (.int (nI j)), l3] [] (mk Lx F A J) = some (none, mk Lx F A' J) ∧ (∀ q, q < nif c n → A' 26 q = zI (gu c n ws q)) ∧ ∀ q, q ≠ 26 → A' q = A q := by
  have hn6 := hv.2.1
  intro k
  induction k with
  | zero =>
    intro j A l3 hj hx h1 h2
    have hlt : ¬ j < nif c n := by omega
    refine ⟨A, ?_, fun q hq => h1 q (by omega), fun q _ => rfl⟩
    rw [hX0_guardInner_2]
    simp (disch := omega) only [SX0_guardInner, Gp hP, hx.2.1, nI_ltI, hlt, Option.bind_some, Option.bind_none, if_true, if_false, zr0, zr1, one11, one01, one0, one1, Option.toList_some, Option.toList_none, List.cons_append, List.nil_append, Nat.reduceEqDiff, Nat.reduceAdd, not_false_eq_true, not_true_eq_false, and_true, true_and, and_false, false_and, or_true, true_or, or_false, false_or, and_self, or_self, Bool.false_eq_true]
  | succ k ih =>
    intro j A l3 hj hx h1 h2
    have hlt : j < nif c n := by omega
    have hp := par_j hv hlt
    have hg := gu_eq hv hlt
    have ha := h2 j (Nat.le_refl j) hlt
    have hpar := c_parentOf (Lx := Lx) (J := J) hP hx hv (g := 2 * j + 1) (by omega)
    rw [if_neg (by omega)] at hpar
    by_cases e0 : 0 < par c n (2 * j + 1)
    · have hq := h1 ((par c n (2 * j + 1) - 1) / 2) (by omega)
      rw [decide_eq_true e0, Bool.true_and] at hg
      by_cases eg : gu c n ws ((par c n (2 * j + 1) - 1) / 2) = true
      · rw [eg] at hq
        rw [eg, Bool.or_true] at hg
        have hxn : XP F (up A 26 (up (A 26) j (nI 1))) P n c ws ou := hx.fr rfl (fun d _ _ => up_ne _ _ (by rcases hP with rfl | rfl | rfl | rfl <;> omega))
        obtain ⟨A', g1, g2, g3⟩ := ih (j + 1) (up A 26 (up (A 26) j (nI 1))) (some (.int (nI (par c n (2 * j + 1))))) (by omega) hxn (fun q hq => by
          rw [up_eq]
          by_cases e : q = j
          · rw [e, up_eq, hg]; rfl
          · rw [up_ne _ _ e]; exact h1 q (by omega)) (fun q hq hq2 => by
          rw [up_eq, up_ne _ _ (by omega)]; exact h2 q (by omega) hq2)
        refine ⟨A', ?_, g2, fun q hq => by rw [g3 q hq, up_ne _ _ hq]⟩
        rw [hX0_guardInner_2]
        simp (disch := omega) only [SX0_guardInner, Gp hP, Op hP, hx.2.1, nI_ltI, hlt, nI_m, nI_add, hpar, nI_g0, e0, G22, nI_s, two0, nI_d, a26, hq, zIt, one1, w26, narZ1, nI_e0, g1, Option.bind_some, Option.bind_none, if_true, if_false, zr0, zr1, one11, one01, one0, one1, Option.toList_some, Option.toList_none, List.cons_append, List.nil_append, Nat.reduceEqDiff, Nat.reduceAdd, not_false_eq_true, not_true_eq_false, and_true, true_and, and_false, false_and, or_true, true_or, or_false, false_or, and_self, or_self, Bool.false_eq_true]
      · have eg2 : gu c n ws ((par c n (2 * j + 1) - 1) / 2) = false := by
          cases z : gu c n ws ((par c n (2 * j + 1) - 1) / 2)
          · rfl
          · exact absurd z eg
        rw [eg2] at hq
        rw [eg2, Bool.or_false] at hg
        obtain ⟨A', g1, g2, g3⟩ := ih (j + 1) A (some (.int (nI (par c n (2 * j + 1))))) (by omega) hx (fun q hq => by
          by_cases e : q = j
          · rw [e, hg]; exact ha
          · exact h1 q (by omega)) (fun q hq hq2 => h2 q (by omega) hq2)
        refine ⟨A', ?_, g2, g3⟩
        rw [hX0_guardInner_2]
        simp (disch := omega) only [SX0_guardInner, Gp hP, Op hP, hx.2.1, nI_ltI, hlt, nI_m, nI_add, hpar, nI_g0, e0, G22, nI_s, two0, nI_d, a26, hq, zIf, nI_e0, g1, Option.bind_some, Option.bind_none, if_true, if_false, zr0, zr1, one11, one01, one0, one1, Option.toList_some, Option.toList_none, List.cons_append, List.nil_append, Nat.reduceEqDiff, Nat.reduceAdd, not_false_eq_true, not_true_eq_false, and_true, true_and, and_false, false_and, or_true, true_or, or_false, false_or, and_self, or_self, Bool.false_eq_true]
    · rw [decide_eq_false e0, Bool.false_and, Bool.or_false] at hg
      obtain ⟨A', g1, g2, g3⟩ := ih (j + 1) A (some (.int (nI (par c n (2 * j + 1))))) (by omega) hx (fun q hq => by
        by_cases e : q = j
        · rw [e, hg]; exact ha
        · exact h1 q (by omega)) (fun q hq hq2 => h2 q (by omega) hq2)
      refine ⟨A', ?_, g2, g3⟩
      rw [hX0_guardInner_2]
      simp (disch := omega) only [SX0_guardInner, Gp hP, Op hP, hx.2.1, nI_ltI, hlt, nI_m, nI_add, hpar, nI_g0, e0, g1, Option.bind_some, Option.bind_none, if_true, if_false, zr0, zr1, one11, one01, one0, one1, Option.toList_some, Option.toList_none, List.cons_append, List.nil_append, Nat.reduceEqDiff, Nat.reduceAdd, not_false_eq_true, not_true_eq_false, and_true, true_and, and_false, false_and, or_true, true_or, or_false, false_or, and_self, or_self, Bool.false_eq_true]
theorem MM_step (hv : PV n c ws ou) {i : Nat} (hi : i < n) {A A1 : Nat → Nat → Int32} {J J1 : Nat → Nat → Int64} (h : MM c n ws (i + 1) A J) (h1 : A1 23 = up (A 23) i (nI (fL c n (kap c) i))) (h2 : A1 24 = up (A 24) (c i 4) (A 24 (c i 4) + nI (fL c n (kap c) i))) (h3 : J1 25 = up (J 25) (c i 4) (J 25 (c i 4) + lN (mK c n ws i))) (h4 : c i 0 = 5 → A1 26 = up (A 26) (nif c i) (zI (alK c n ws i))) (h5 : ¬ c i 0 = 5 → A1 26 = A 26) : MM c n ws i A1 J1 := by
  have hb := hv.b hi
  obtain ⟨m1, m2, m3, m4⟩ := h
  refine ⟨fun k hk hn => ?_, fun g hg => ?_, fun g hg => ?_, fun k hk hn e5 => ?_⟩
  · rw [h1]
    by_cases e : k = i
    · rw [e, up_eq]
    · rw [up_ne _ _ e]; exact m1 k (by omega) hn
  · rw [h2, tsG_step _ _ hi]
    by_cases e : g = c i 4
    · rw [if_pos e.symm, e, up_eq, m2 _ (by omega), nI_add, Nat.add_comm]
    · rw [if_neg (fun z => e z.symm), up_ne _ _ e, Nat.zero_add]; exact m2 g hg
  · rw [h3, tsG_step _ _ hi]
    by_cases e : g = c i 4
    · rw [if_pos e.symm, e, up_eq, m3 _ (by omega), lN_add, Nat.add_comm]
    · rw [if_neg (fun z => e z.symm), up_ne _ _ e, Nat.zero_add]; exact m3 g hg
  · by_cases e : k = i
    · subst e
      rw [h4 e5, up_eq]
    · have h0 := m4 k (by omega) hn e5
      by_cases z : c i 0 = 5
      · have := nif_lt (c := c) (show i < k by omega) z
        rw [h4 z, up_ne _ _ (by omega)]; exact h0
      · rw [h5 z]; exact h0
theorem l_meas (hP : isP P) (hv : PV n c ws ou) : ∀ i A J (l4 : Option Value), i ≤ n → XP F A P n c ws ou → MM c n ws i A J → ∃ A' J' l4', den mX0_measure 28 [some (.ref 22), some (.ref P), some (.int (nI (nif c i))), some (.int (nI i + (-1))), l4] [] (mk Lx F A J) = den mX0_measure 137 [some (.ref 22), some (.ref P), some (.int (nI 0)), some (.int (nI 0 + (-1))), l4'] [] (mk Lx F A' J') ∧ MM c n ws 0 A' J' ∧ (∀ q, q ≠ 23 → q ≠ 24 → q ≠ 26 → A' q = A q) ∧ ∀ q, q ≠ 25 → J' q = J q := by
  intro i
  induction i with
  | zero =>
    intro A J l4 _ hx hm
    refine ⟨A, J, l4, ?_, hm, fun q _ _ _ => rfl, fun q _ => rfl⟩
    have e1 : nI 0 + (-1) < 0 := by decide
    obtain ⟨r0, r1, r4, r5, r8, r9, r12, r13, r16, r17, r20, r21, r22, r25, r26, r27, r29, rest⟩ := SX0_measure_0
    rw [hX0_measure_28, r29, if_pos e1]
    rfl
  | succ i ih =>
    intro A J l4 hi hx hm
    have hlt : i < n := by omega
    have hn6 := hv.2.1
    rw [nI_dec]
    by_cases e5 : c i 0 = 5
    · have hnl := nif_lt hlt e5
      have f1 := hm.2.1 (2 * nif c i + 1) (by omega)
      have f2 := hm.2.1 (2 * nif c i + 2) (by omega)
      have f3 := hm.2.2.1 (2 * nif c i + 1) (by omega)
      have f4 := hm.2.2.1 (2 * nif c i + 2) (by omega)
      rw [tsG_side hv _ hlt (Or.inl rfl), ← fG_eq hv (kap c) (by omega)] at f1
      rw [tsG_side hv _ hlt (Or.inr rfl), ← fG_eq hv (kap c) (by omega)] at f2
      rw [tsG_side hv _ hlt (Or.inl rfl), ← mG_eq hv (by omega)] at f3
      rw [tsG_side hv _ hlt (Or.inr rfl), ← mG_eq hv (by omega)] at f4
      obtain ⟨A', J', l4', g1, g2, g3, g4⟩ := ih (up (up (up A 23 (up (A 23) i (nI (fL c n (kap c) i)))) 26 (up (A 26) (nif c i) (zI (alK c n ws i)))) 24 (up (A 24) (c i 4) (A 24 (c i 4) + nI (fL c n (kap c) i)))) (up J 25 (up (J 25) (c i 4) (J 25 (c i 4) + lN (mK c n ws i)))) (some (.int (nI (c i 4)))) (by omega) (hx.fr rfl (fun d _ _ => by
        rw [up_ne _ _ (by rcases hP with rfl | rfl | rfl | rfl <;> omega), up_ne _ _ (by rcases hP with rfl | rfl | rfl | rfl <;> omega), up_ne _ _ (by rcases hP with rfl | rfl | rfl | rfl <;> omega)])) (MM_step hv hlt hm (by simp (disch := omega) only [up_eq, up_ne]) (by simp (disch := omega) only [up_eq, up_ne]) (by simp (disch := omega) only [up_eq, up_ne]) (fun _ => by simp (disch := omega) only [up_eq, up_ne]) (fun z => absurd e5 z))
      refine ⟨A', J', l4', t_meas5 hP hx hv hlt e5 f1 f2 f3 f4 l4 g1, g2, fun q h1 h2 h3 => ?_, fun q h1 => ?_⟩
      · rw [g3 q h1 h2 h3, up_ne _ _ h2, up_ne _ _ h3, up_ne _ _ h1]
      · rw [g4 q h1, up_ne _ _ h1]
    · have ek : fL c n (kap c) i = kap c i := by rw [fL, if_neg e5, Nat.add_zero]
      have em : mK c n ws i = 1000000 * kap c i := if_neg e5
      have k4 : kap c i ≤ 4 := Nat.le_trans (kap_le c i).1 (kap_le c i).2
      have el : (nI (kap c i)).toInt64 * lN 1000000 = lN (mK c n ws i) := by rw [em]; exact lN_fl (by omega)
      obtain ⟨A', J', l4', g1, g2, g3, g4⟩ := ih (up (up A 23 (up (A 23) i (nI (kap c i)))) 24 (up (A 24) (c i 4) (A 24 (c i 4) + nI (kap c i)))) (up J 25 (up (J 25) (c i 4) (J 25 (c i 4) + (nI (kap c i)).toInt64 * lN 1000000))) (some (.int (nI (c i 4)))) (by omega) (hx.fr rfl (fun d _ _ => by
        rw [up_ne _ _ (by rcases hP with rfl | rfl | rfl | rfl <;> omega), up_ne _ _ (by rcases hP with rfl | rfl | rfl | rfl <;> omega)])) (MM_step hv hlt hm (by rw [ek]; simp (disch := omega) only [up_eq, up_ne]) (by rw [ek]; simp (disch := omega) only [up_eq, up_ne]) (by rw [el]; simp (disch := omega) only [up_eq, up_ne]) (fun z => absurd z e5) (fun _ => by simp (disch := omega) only [up_eq, up_ne]))
      refine ⟨A', J', l4', t_meas0 hP hx hv hlt e5 l4 g1, g2, fun q h1 h2 h3 => ?_, fun q h1 => ?_⟩
      · rw [g3 q h1 h2 h3, up_ne _ _ h2, up_ne _ _ h1]
      · rw [g4 q h1, up_ne _ _ h1]
end MEASG
