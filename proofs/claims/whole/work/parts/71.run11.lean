section RUN11
variable {Lx : Nat} {J : Nat → Nat → Int64} {n ou : Nat} {c : Nat → Nat → Nat} {ws : Nat → Nat} {gd : Nat → Bool}
theorem hb_set {H j : Nat} (hH : H < 2 ^ (2 * j + 1)) (d y : Bool) : (∀ g, g ≤ 2 * j → (if d = true then H ||| 2 ^ (if y = true then 2 * j + 1 else 2 * j + 2) else H).testBit g = H.testBit g) ∧ (if d = true then H ||| 2 ^ (if y = true then 2 * j + 1 else 2 * j + 2) else H).testBit (2 * j + 1) = (d && y) ∧ (if d = true then H ||| 2 ^ (if y = true then 2 * j + 1 else 2 * j + 2) else H).testBit (2 * j + 2) = (d && !y) := by
  have t1 := Nat.testBit_lt_two_pow hH
  have t2 := Nat.testBit_lt_two_pow (pw_up hH (show 2 * j + 1 ≤ 2 * j + 2 by omega))
  cases d with
  | false => simp only [Bool.false_eq_true, if_false, Bool.false_and]; exact ⟨fun _ _ => trivial, t1, t2⟩
  | true =>
    have n1 : decide (2 * j + 1 = 2 * j + 2) = false := decide_eq_false (by omega)
    have n2 : decide (2 * j + 2 = 2 * j + 1) = false := decide_eq_false (by omega)
    have n3 : decide (2 * j + 1 = 2 * j + 1) = true := decide_eq_true rfl
    have n4 : decide (2 * j + 2 = 2 * j + 2) = true := decide_eq_true rfl
    cases y
    · simp only [Bool.false_eq_true, if_false, if_true, Nat.testBit_or, Nat.testBit_two_pow, t1, t2, n2, n4, Bool.true_and, Bool.not_false, Bool.false_or, and_self, and_true, decide_true]
      intro g hg
      rw [decide_eq_false (by omega), Bool.or_false]
    · simp only [Bool.false_eq_true, if_false, if_true, Nat.testBit_or, Nat.testBit_two_pow, t1, t2, n1, n3, Bool.true_and, Bool.not_true, Bool.false_or, and_self, and_true, decide_true]
      intro g hg
      rw [decide_eq_false (by omega), Bool.or_false]
theorem sb_set {S j : Nat} (hS : S < 2 ^ (2 * j + 1)) (b : Bool) : (∀ g, g ≤ 2 * j → (if b = true then S ||| (2 ^ (2 * j + 1) ||| 2 ^ (2 * j + 2)) else S).testBit g = S.testBit g) ∧ (if b = true then S ||| (2 ^ (2 * j + 1) ||| 2 ^ (2 * j + 2)) else S).testBit (2 * j + 1) = b ∧ (if b = true then S ||| (2 ^ (2 * j + 1) ||| 2 ^ (2 * j + 2)) else S).testBit (2 * j + 2) = b := by
  have t1 := Nat.testBit_lt_two_pow hS
  have t2 := Nat.testBit_lt_two_pow (pw_up hS (show 2 * j + 1 ≤ 2 * j + 2 by omega))
  cases b with
  | false => simp only [Bool.false_eq_true, if_false]; exact ⟨fun _ _ => trivial, t1, t2⟩
  | true =>
    have n1 : decide (2 * j + 1 = 2 * j + 2) = false := decide_eq_false (by omega)
    have n2 : decide (2 * j + 2 = 2 * j + 1) = false := decide_eq_false (by omega)
    have n3 : decide (2 * j + 1 = 2 * j + 1) = true := decide_eq_true rfl
    have n4 : decide (2 * j + 2 = 2 * j + 2) = true := decide_eq_true rfl
    simp only [if_true, Nat.testBit_or, Nat.testBit_two_pow, t1, t2, n1, n2, n3, n4, Bool.or_true, Bool.or_false, Bool.false_or, and_self, and_true, decide_true]
    intro g hg
    rw [decide_eq_false (by omega), decide_eq_false (by omega), Bool.or_false, Bool.or_false]
theorem l_runs1 (hv : PV n c ws ou) : ∀ k i (F A : Nat → Nat → Int32) (H S : Nat) (l3 l4 l5 : Option Value), i + k = n → M0 (A 57) n c ws ou → F 56 26 = (-4) → H < 2 ^ (2 * nif c i + 1) → S < 2 ^ (2 * nif c i + 1) → S.testBit 0 = false → (∀ j, j < nif c i → S.testBit (2 * j + 1) = S.testBit (2 * j + 2)) → (∀ g, g ≤ 2 * nif c i → A 68 g = zI (H.testBit g)) → (∀ j, j < nif c i → A 69 j = zI (S.testBit (2 * j + 1))) → (∀ j, j < nif c n → A 65 j = zI (gd j)) → ∃ F' A', den mX7_runs1 31 [some (.ref 56), some (.int (nI (nif c i))), some (.int (nI i)), l3, l4, l5] [] (mk Lx F A J) = some (none, mk Lx F' A' J) ∧ A' 66 = (rn c gd k i (A 66) H S (F 56 24) (F 56 25)).1 ∧ F' 56 24 = (rn c gd k i (A 66) H S (F 56 24) (F 56 25)).2.1 ∧ F' 56 25 = (rn c gd k i (A 66) H S (F 56 24) (F 56 25)).2.2.1 ∧ F' 56 26 = (rn c gd k i (A 66) H S (F 56 24) (F 56 25)).2.2.2 ∧ (∀ q, q ≠ 66 → q ≠ 68 → q ≠ 69 → A' q = A q) ∧ (∀ p, p ≠ 56 → F' p = F p) ∧ ∀ q, q ≠ 24 → q ≠ 25 → q ≠ 26 → F' 56 q = F 56 q := by
  have hn := hv.1
  have hn6 := hv.2.1
  intro k
  induction k with
  | zero =>
    intro i F A H S l3 l4 l5 hi hM h5 hH hS hS0 hSp h8 h9 hg
    have hlt : ¬ i < n := by omega
    refine ⟨F, A, ?_, rfl, rfl, rfl, h5, fun _ _ _ _ => rfl, fun _ _ => rfl, fun _ _ _ _ => rfl⟩
    rw [hX7_runs1_31]
    simp (disch := omega) only [SX7_runs1_0, SX7_runs1_1, SX7_runs1_2, G56, leN, a57, hM.1, nI_ltI, hlt, Option.bind_some, Option.bind_none, if_true, if_false, zr0, zr1, one11, one01, one0, one1, Option.toList_some, Option.toList_none, List.cons_append, List.nil_append, Nat.reduceEqDiff, Nat.reduceAdd, not_false_eq_true, not_true_eq_false, and_true, true_and, and_false, false_and, or_true, true_or, or_false, false_or, and_self, or_self, Bool.false_eq_true]
  | succ k ih =>
    intro i F A H S l3 l4 l5 hi hM h5 hH hS hS0 hSp h8 h9 hg
    have hin : i < n := by omega
    have hb := hv.b hin
    have eN : nif c (i + 1) = nif c i + if c i 0 = 5 then 1 else 0 := rfl
    have hd := h8 (c i 4) hb.2.2.2.2.1
    have hs : 0 < c i 4 → A 69 ((c i 4 - 1) / 2) = zI (S.testBit (c i 4)) := fun z => by
      rw [h9 _ (by omega)]
      rcases Nat.lt_or_ge (2 * ((c i 4 - 1) / 2) + 1) (c i 4) with w | w
      · rw [hSp _ (by omega), show 2 * ((c i 4 - 1) / 2) + 2 = c i 4 by omega]
      · rw [show 2 * ((c i 4 - 1) / 2) + 1 = c i 4 by omega]
    have hs0 : c i 4 = 0 → S.testBit (c i 4) = false := fun z => by rw [z]; exact hS0
    by_cases e5 : c i 0 = 5
    · have hnl := nif_lt hin e5
      rw [if_pos e5] at eN
      have tc := c_ifComes (Lx := Lx) (F := F) (A := A) (J := J) hM hv hin (j := nif c i) (by omega) (H.testBit (c i 4)) (H.testBit (c i 4) || S.testBit (c i 4)) (gd (nif c i)) (decide (0 < A 66 (c i 1))) (hg _ hnl) (by simp only [decide_eq_true_eq])
      have eh := hb_set hH (H.testBit (c i 4)) (decide (0 < A 66 (c i 1)))
      have es := sb_set hS ((H.testBit (c i 4) || S.testBit (c i 4)) && gd (nif c i))
      simp only [decide_eq_true_eq] at eh
      obtain ⟨h1, h2, h3⟩ := eh
      obtain ⟨s1, s2, s3⟩ := es
      rw [rn, if_pos e5]
      obtain ⟨F', A', e1, e2, e3, e4, e6, e7, e8, e9⟩ := ih (i + 1) (up F 56 (up (up (F 56) 24 (F 56 24 + zI (H.testBit (c i 4)))) 25 (F 56 25 + (if (H.testBit (c i 4) || S.testBit (c i 4)) = true then (if gd (nif c i) = true then nI 1 else nI 4) else nI 0)))) (up (up A 68 (up (up (A 68) (2 * nif c i + 1) (zI (H.testBit (c i 4) && decide (0 < A 66 (c i 1))))) (2 * nif c i + 2) (zI (H.testBit (c i 4) && !decide (0 < A 66 (c i 1)))))) 69 (up (A 69) (nif c i) (zI ((H.testBit (c i 4) || S.testBit (c i 4)) && gd (nif c i))))) (if H.testBit (c i 4) = true then H ||| 2 ^ (if 0 < A 66 (c i 1) then 2 * nif c i + 1 else 2 * nif c i + 2) else H) (if ((H.testBit (c i 4) || S.testBit (c i 4)) && gd (nif c i)) = true then S ||| (2 ^ (2 * nif c i + 1) ||| 2 ^ (2 * nif c i + 2)) else S) (some (.int (nI (c i 4)))) (some (.int (zI (H.testBit (c i 4))))) (some (.int (zI (H.testBit (c i 4) || S.testBit (c i 4))))) (by omega) (by simp (disch := omega) only [up_ne]; exact hM) (by simp (disch := omega) only [up_eq, up_ne, h5]) (by
        rw [eN]
        split
        · exact Nat.or_lt_two_pow (pw_up hH (by omega)) (pw_lt (by split <;> omega))
        · exact pw_up hH (by omega)) (by
        rw [eN]
        split
        · exact Nat.or_lt_two_pow (pw_up hS (by omega)) (Nat.or_lt_two_pow (pw_lt (by omega)) (pw_lt (by omega)))
        · exact pw_up hS (by omega)) (by rw [s1 0 (by omega)]; exact hS0) (fun j hj => by
        rw [eN] at hj
        by_cases z : j = nif c i
        · rw [z, s2, s3]
        · rw [s1 _ (by omega), s1 _ (by omega)]; exact hSp j (by omega)) (fun g hg => by
        rw [eN] at hg
        simp (disch := omega) only [up_eq, up_ne]
        by_cases z2 : g = 2 * nif c i + 2
        · rw [z2, up_eq, h3]
        · rw [up_ne _ _ z2]
          by_cases z1 : g = 2 * nif c i + 1
          · rw [z1, up_eq, h2]
          · rw [up_ne _ _ z1, h1 g (by omega)]
            exact h8 g (by omega)) (fun j hj => by
        rw [eN] at hj
        rw [up_eq]
        by_cases z : j = nif c i
        · rw [z, up_eq, s2]
        · rw [up_ne _ _ z, s1 _ (by omega)]; exact h9 j (by omega)) (by simp (disch := omega) only [up_ne]; exact hg)
      simp (disch := omega) only [up_eq, up_ne, eN] at e1 e2 e3 e4 e6
      refine ⟨F', A', ?_, e2, e3, e4, e6, fun q a1 a2 a3 => ?_, fun p a1 => ?_, fun q a1 a2 a3 => ?_⟩
      · exact t_ruIf hM hv hin e5 h5 _ _ (gd (nif c i)) (decide (0 < A 66 (c i 1))) hd hs hs0 (hg _ hnl) (by simp only [decide_eq_true_eq]) l3 l4 l5 tc e1
      · rw [e7 q a1 a2 a3, up_ne _ _ a3, up_ne _ _ a2]
      · rw [e8 p a1, up_ne _ _ a1]
      · rw [e9 q a1 a2 a3, up_eq, up_ne _ _ a2, up_ne _ _ a1]
    · rw [if_neg e5, Nat.add_zero] at eN
      rw [rn, if_neg e5]
      have ek : (if c i 0 = 4 then 4 else 1) = kap c i := rfl
      by_cases ed : H.testBit (c i 4) = true
      · rw [if_pos ed]
        rw [ed] at hd
        by_cases es : c i 0 = 4 ∧ A 66 (c i 3) = 0
        · rw [if_pos es]
          have := c_isDoneS (Lx := Lx) (J := J) (F := (up F 56 (up (F 56) 25 (F 56 25 + nI (kap c i))))) hM hv hin es
          simp (disch := omega) only [up_eq, up_ne, up_up] at this
          refine ⟨up F 56 (up (up (up (F 56) 25 (F 56 25 + nI (kap c i))) 26 (nI i)) 24 (F 56 24)), A, t_ruNo hM hv hin e5 h5 true _ hd hs hs0 l3 l4 l5 (fun z => absurd z (by decide)) (fun _ => by rw [Bool.true_or, if_pos rfl, ek]; exact this) ?_, ?_⟩
          · have ne : ¬ nI i = (-4) := nI_m4 (by omega)
            rw [hX7_runs1_31]
            by_cases hlt : i + 1 < n
            · simp (disch := omega) only [SX7_runs1_0, SX7_runs1_1, SX7_runs1_2, G56, leN, a57, up_eq, up_ne, hM.1, nI_ltI, hlt, ne, Option.bind_some, Option.bind_none, if_true, if_false, zr0, zr1, one11, one01, one0, one1, Option.toList_some, Option.toList_none, List.cons_append, List.nil_append, Nat.reduceEqDiff, Nat.reduceAdd, not_false_eq_true, not_true_eq_false, and_true, true_and, and_false, false_and, or_true, true_or, or_false, false_or, and_self, or_self, Bool.false_eq_true]
            · simp (disch := omega) only [SX7_runs1_0, SX7_runs1_1, SX7_runs1_2, G56, leN, a57, up_eq, up_ne, hM.1, nI_ltI, hlt, ne, Option.bind_some, Option.bind_none, if_true, if_false, zr0, zr1, one11, one01, one0, one1, Option.toList_some, Option.toList_none, List.cons_append, List.nil_append, Nat.reduceEqDiff, Nat.reduceAdd, not_false_eq_true, not_true_eq_false, and_true, true_and, and_false, false_and, or_true, true_or, or_false, false_or, and_self, or_self, Bool.false_eq_true]
          · simp (disch := omega) only [up_eq, up_ne, true_and]
            exact ⟨fun _ _ _ _ => trivial, fun p hp => up_ne _ _ hp, fun q a1 a2 a3 => by rw [up_ne _ _ a1, up_ne _ _ a3, up_ne _ _ a2]⟩
        · rw [if_neg es]
          have := c_isDone (Lx := Lx) (J := J) (F := (up F 56 (up (F 56) 25 (F 56 25 + nI (kap c i))))) hM hv hin e5 es
          simp (disch := omega) only [up_eq, up_ne, up_up] at this
          obtain ⟨F', A', e1, e2, e3, e4, e6, e7, e8, e9⟩ := ih (i + 1) (up F 56 (up (up (F 56) 25 (F 56 25 + nI (kap c i))) 24 (F 56 24 + nI 1))) (up A 66 (dov c i (A 66))) H S (some (.int (nI (c i 4)))) (some (.int (zI true))) (some (.int (zI (true || S.testBit (c i 4))))) (by omega) (by simp (disch := omega) only [up_ne]; exact hM) (by simp (disch := omega) only [up_eq, up_ne, h5]) (by rw [eN]; exact hH) (by rw [eN]; exact hS) hS0 (by rw [eN]; exact hSp) (by rw [eN]; simp (disch := omega) only [up_ne]; exact h8) (by rw [eN]; simp (disch := omega) only [up_ne]; exact h9) (by simp (disch := omega) only [up_ne]; exact hg)
          simp (disch := omega) only [up_eq, up_ne, eN] at e1 e2 e3 e4 e6
          refine ⟨F', A', ?_, e2, e3, e4, e6, fun q a1 a2 a3 => ?_, fun p a1 => ?_, fun q a1 a2 a3 => ?_⟩
          · exact t_ruNo hM hv hin e5 h5 true _ hd hs hs0 l3 l4 l5 (fun z => absurd z (by decide)) (fun _ => by rw [Bool.true_or, if_pos rfl, ek]; exact this) e1
          · rw [e7 q a1 a2 a3, up_ne _ _ a1]
          · rw [e8 p a1, up_ne _ _ a1]
          · rw [e9 q a1 a2 a3, up_eq, up_ne _ _ a1, up_ne _ _ a2]
      · rw [if_neg ed]
        have ed' : H.testBit (c i 4) = false := by simpa using ed
        rw [ed'] at hd
        obtain ⟨F', A', e1, e2, e3, e4, e6, e7, e8, e9⟩ := ih (i + 1) (up F 56 (up (F 56) 25 (F 56 25 + (if S.testBit (c i 4) = true then nI (kap c i) else nI 0)))) A H S (some (.int (nI (c i 4)))) (some (.int (zI false))) (some (.int (zI (false || S.testBit (c i 4))))) (by omega) hM (by simp (disch := omega) only [up_eq, up_ne, h5]) (by rw [eN]; exact hH) (by rw [eN]; exact hS) hS0 (by rw [eN]; exact hSp) (by rw [eN]; exact h8) (by rw [eN]; exact h9) hg
        simp (disch := omega) only [up_eq, up_ne, eN] at e1 e2 e3 e4 e6
        refine ⟨F', A', ?_, e2, e3, e4, e6, e7, fun p a1 => ?_, fun q a1 a2 a3 => ?_⟩
        · exact t_ruNo hM hv hin e5 h5 false _ hd hs hs0 l3 l4 l5 (fun _ => by rw [Bool.false_or, ek]) (fun z => absurd z (by decide)) e1
        · rw [e8 p a1, up_ne _ _ a1]
        · rw [e9 q a1 a2 a3, up_eq, up_ne _ _ a2]
end RUN11
