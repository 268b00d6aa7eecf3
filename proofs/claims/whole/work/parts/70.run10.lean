/-! a run, as both make it: v values, H the guards that hold, S those under which all is spent -/
def rn (c : Nat → Nat → Nat) (gd : Nat → Bool) : Nat → Nat → (Nat → Int32) → Nat → Nat → Int32 → Int32 → (Nat → Int32) × Int32 × Int32 × Int32
  | 0, _, v, _, _, dn, sp => (v, dn, sp, -4)
  | k + 1, i, v, H, S, dn, sp =>
    if c i 0 = 5 then
      rn c gd k (i + 1) v (if H.testBit (c i 4) = true then H ||| 2 ^ (if 0 < v (c i 1) then 2 * nif c i + 1 else 2 * nif c i + 2) else H) (if ((H.testBit (c i 4) || S.testBit (c i 4)) && gd (nif c i)) = true then S ||| (2 ^ (2 * nif c i + 1) ||| 2 ^ (2 * nif c i + 2)) else S) (dn + zI (H.testBit (c i 4))) (sp + if (H.testBit (c i 4) || S.testBit (c i 4)) = true then (if gd (nif c i) = true then nI 1 else nI 4) else nI 0)
    else if H.testBit (c i 4) = true then
      if c i 0 = 4 ∧ v (c i 3) = 0 then (v, dn, sp + nI (kap c i), nI i)
      else rn c gd k (i + 1) (dov c i v) H S (dn + nI 1) (sp + nI (kap c i))
    else rn c gd k (i + 1) v H S dn (sp + if S.testBit (c i 4) = true then nI (kap c i) else nI 0)
theorem nI_m4 {a : Nat} (h : a < 2 ^ 31) : ¬ nI a = (-4) := fun z => i32_ne (x := (-4)) (by decide) h z.symm
theorem ad0 (x : Int32) : x + nI 0 = x := by rw [n0]; exact Int32.add_zero x
theorem shl3 : ∀ j : Nat, j < 6 → nI 3 <<< (nI (2 * j + 1) &&& 31) = nI (2 ^ (2 * j + 1) ||| 2 ^ (2 * j + 2)) := by decide +kernel
theorem p31 {x k : Nat} (h : x < 2 ^ k) (hk : k ≤ 13) : x < 2 ^ 31 := Nat.lt_of_lt_of_le h (Nat.pow_le_pow_right (by decide) (by omega))
theorem pw_up {x a b : Nat} (h : x < 2 ^ a) (hb : a ≤ b) : x < 2 ^ b := Nat.lt_of_lt_of_le h (Nat.pow_le_pow_right (by decide) hb)
theorem pw_lt {a b : Nat} (h : a < b) : 2 ^ a < 2 ^ b := Nat.pow_lt_pow_right (by decide) h
theorem g_all {Q j : Nat} (F : Nat → Nat → Int32) (hj : j < 6) (ch g d y : Bool) {H S : Nat} (hH : F Q 1 = nI H) (hS : F Q 2 = nI S) : ∃ f : Nat → Int32, gI3 Q (gI2 Q (gI1 Q F ch g) j ch g) j d y = up F Q f ∧ f 1 = nI (if d = true then H ||| 2 ^ (if y = true then 2 * j + 1 else 2 * j + 2) else H) ∧ f 2 = nI (if (ch && g) = true then S ||| (2 ^ (2 * j + 1) ||| 2 ^ (2 * j + 2)) else S) ∧ f 3 = F Q 3 + zI d ∧ f 4 = F Q 4 + (if ch = true then (if g = true then nI 1 else nI 4) else nI 0) ∧ f 5 = F Q 5 := by
  have s1 := shl1 (k := 2 * j + 1) (by omega)
  have s2 := shl1 (k := 2 * j + 2) (by omega)
  have s3 := shl3 j hj
  refine ⟨gI3 Q (gI2 Q (gI1 Q F ch g) j ch g) j d y Q, ?_, ?_⟩ <;> cases ch <;> cases g <;> cases d <;> cases y <;> simp (disch := omega) only [gI1, gI2, gI3, Bool.true_and, Bool.false_and, Bool.and_true, Bool.and_false, up_eq, up_ne, up_up, up_id, hH, hS, s1, s2, s3, fa_or, zIt, zIf, ad0, Option.bind_some, Option.bind_none, if_true, if_false, zr0, zr1, one11, one01, one0, one1, Option.toList_some, Option.toList_none, List.cons_append, List.nil_append, Nat.reduceEqDiff, Nat.reduceAdd, not_false_eq_true, not_true_eq_false, and_true, true_and, and_false, false_and, or_true, true_or, or_false, false_or, and_self, or_self, Bool.false_eq_true]
section RUN10
variable {Lx : Nat} {J : Nat → Nat → Int64} {Q n ou : Nat} {c : Nat → Nat → Nat} {ws : Nat → Nat} {gd : Nat → Bool}
theorem l_doAll (hQ : isM Q) (hv : PV n c ws ou) : ∀ k i (F A : Nat → Nat → Int32) (H S : Nat) (l5 l6 l7 : Option Value), i + k = n → XP F A 12 n c ws ou → F Q 5 = (-4) → F Q 1 = nI H → F Q 2 = nI S → H < 2 ^ (2 * nif c i + 1) → S < 2 ^ (2 * nif c i + 1) → (∀ j, j < nif c n → A 26 j = zI (gd j)) → (∀ i, i < n → ¬ c i 0 = 5 → A 23 i = nI (kap c i)) → ∃ f : Nat → Int32, den mX2_doAll 31 [some (.ref Q), some (.ref 12), some (.ref 22), some (.int (nI (nif c i))), some (.int (nI i)), l5, l6, l7] [] (mk Lx F A J) = some (none, mk Lx (up F Q f) (up A (Q + 1) (rn c gd k i (A (Q + 1)) H S (F Q 3) (F Q 4)).1) J) ∧ f 3 = (rn c gd k i (A (Q + 1)) H S (F Q 3) (F Q 4)).2.1 ∧ f 4 = (rn c gd k i (A (Q + 1)) H S (F Q 3) (F Q 4)).2.2.1 ∧ f 5 = (rn c gd k i (A (Q + 1)) H S (F Q 3) (F Q 4)).2.2.2 := by
  have hn := hv.1
  have hn6 := hv.2.1
  have q12 : ∀ d, 1 ≤ d → d ≤ 7 → 12 + d ≠ Q + 1 := fun d _ _ => by rcases hQ with rfl | rfl <;> omega
  have q0 : (12 : Nat) ≠ Q := by rcases hQ with rfl | rfl <;> omega
  have q3 : (23 : Nat) ≠ Q + 1 := by rcases hQ with rfl | rfl <;> omega
  have q6 : (26 : Nat) ≠ Q + 1 := by rcases hQ with rfl | rfl <;> omega
  intro k
  induction k with
  | zero =>
    intro i F A H S l5 l6 l7 hi hX h5 h1 h2 hH hS hg hf
    have hlt : ¬ i < n := by omega
    refine ⟨F Q, ?_, rfl, rfl, h5⟩
    rw [rn, hX2_doAll_31]
    simp (disch := omega) only [SX2_doAll_0, SX2_doAll_1, SX2_doAll_2, Gp isP_12, hX.1, nI_ltI, hlt, up_id, Option.bind_some, Option.bind_none, if_true, if_false, zr0, zr1, one11, one01, one0, one1, Option.toList_some, Option.toList_none, List.cons_append, List.nil_append, Nat.reduceEqDiff, Nat.reduceAdd, not_false_eq_true, not_true_eq_false, and_true, true_and, and_false, false_and, or_true, true_or, or_false, false_or, and_self, or_self, Bool.false_eq_true]
  | succ k ih =>
    intro i F A H S l5 l6 l7 hi hX h5 h1 h2 hH hS hg hf
    have hin : i < n := by omega
    have hb := hv.b hin
    have eN : nif c (i + 1) = nif c i + if c i 0 = 5 then 1 else 0 := rfl
    have H31 := p31 hH (by omega)
    have S31 := p31 hS (by omega)
    by_cases e5 : c i 0 = 5
    · have hnl := nif_lt hin e5
      rw [if_pos e5] at eN
      obtain ⟨f1, u1, u2, u3, u4, u5, u6⟩ := g_all F (Q := Q) (j := nif c i) (by omega) (H.testBit (c i 4) || S.testBit (c i 4)) (gd (nif c i)) (H.testBit (c i 4)) (decide (0 < A (Q + 1) (c i 1))) h1 h2
      simp only [decide_eq_true_eq] at u2
      obtain ⟨f, e1, e2, e3, e4⟩ := ih (i + 1) (up F Q f1) A _ _ (some (.int (nI (c i 4)))) (some (.int (zI (H.testBit (c i 4))))) (some (.int (zI (H.testBit (c i 4) || S.testBit (c i 4))))) (by omega) (hX.fr (up_ne _ _ q0) (fun _ _ _ => rfl)) (by rw [up_eq, u6, h5]) (by rw [up_eq, u2]) (by rw [up_eq, u3]) (by
        rw [eN]
        split
        · exact Nat.or_lt_two_pow (pw_up hH (by omega)) (pw_lt (by split <;> omega))
        · exact pw_up hH (by omega)) (by
        rw [eN]
        split
        · exact Nat.or_lt_two_pow (pw_up hS (by omega)) (Nat.or_lt_two_pow (pw_lt (by omega)) (pw_lt (by omega)))
        · exact pw_up hS (by omega)) hg hf
      rw [up_eq, up_up, u4, u5, eN] at e1
      rw [up_eq, u4, u5] at e2 e3 e4
      rw [rn, if_pos e5]
      refine ⟨f, ?_, e2, e3, e4⟩
      exact t_doIf hQ hX hv hin e5 h5 h1 h2 H31 S31 _ _ (gd (nif c i)) (decide (0 < A (Q + 1) (c i 1))) rfl rfl (hg _ hnl) (by simp only [decide_eq_true_eq]) l5 l6 l7 (by rw [u1]; exact e1)
    · rw [if_neg e5, Nat.add_zero] at eN
      rw [rn, if_neg e5]
      have hf1 := hf i hin e5
      have qX : ∀ g : Nat → Int32, XP (up F Q g) A 12 n c ws ou := fun g => hX.fr (up_ne _ _ q0) (fun _ _ _ => rfl)
      by_cases ed : H.testBit (c i 4) = true
      · rw [if_pos ed]
        by_cases es : c i 0 = 4 ∧ A (Q + 1) (c i 3) = 0
        · rw [if_pos es]
          refine ⟨up (up (F Q) 4 (F Q 4 + nI (kap c i))) 5 (nI i), ?_, ?_, ?_, ?_⟩
          · refine t_doNo hQ hX hv hin e5 h5 h1 h2 H31 S31 _ _ rfl rfl hf1 (σ2 := mk Lx (up F Q (up (up (F Q) 4 (F Q 4 + nI (kap c i))) 5 (nI i))) A J) (fun z => absurd (z.symm.trans ed) (by decide)) (fun _ => ?_) l5 l6 l7 ?_
            · have := c_doOneS (Lx := Lx) (J := J) hQ (qX (up (F Q) 4 (F Q 4 + (if (H.testBit (c i 4) || S.testBit (c i 4)) = true then nI (kap c i) else nI 0)))) hv hin es
              rw [up_eq, up_up] at this
              rw [this]
              rw [ed, Bool.true_or, if_pos rfl]
            · have hx1 := (qX (up (up (F Q) 4 (F Q 4 + nI (kap c i))) 5 (nI i))).1
              rw [hX2_doAll_31]
              have ne : ¬ nI i = (-4) := nI_m4 (by omega)
              by_cases hlt : i + 1 < n
              · simp (disch := omega) only [SX2_doAll_0, SX2_doAll_1, SX2_doAll_2, Gp isP_12, Gm hQ, hx1, up_eq, nI_ltI, hlt, ne, up_id, Option.bind_some, Option.bind_none, if_true, if_false, zr0, zr1, one11, one01, one0, one1, Option.toList_some, Option.toList_none, List.cons_append, List.nil_append, Nat.reduceEqDiff, Nat.reduceAdd, not_false_eq_true, not_true_eq_false, and_true, true_and, and_false, false_and, or_true, true_or, or_false, false_or, and_self, or_self, Bool.false_eq_true]
              · simp (disch := omega) only [SX2_doAll_0, SX2_doAll_1, SX2_doAll_2, Gp isP_12, Gm hQ, hx1, up_eq, nI_ltI, hlt, ne, up_id, Option.bind_some, Option.bind_none, if_true, if_false, zr0, zr1, one11, one01, one0, one1, Option.toList_some, Option.toList_none, List.cons_append, List.nil_append, Nat.reduceEqDiff, Nat.reduceAdd, not_false_eq_true, not_true_eq_false, and_true, true_and, and_false, false_and, or_true, true_or, or_false, false_or, and_self, or_self, Bool.false_eq_true]
          · simp (disch := omega) only [up_ne]
          · simp (disch := omega) only [up_ne, up_eq]
          · simp (disch := omega) only [up_eq]
        · rw [if_neg es]
          obtain ⟨f, e1, e2, e3, e4⟩ := ih (i + 1) (up F Q (up (up (F Q) 4 (F Q 4 + nI (kap c i))) 3 (F Q 3 + nI 1))) (up A (Q + 1) (dov c i (A (Q + 1)))) H S (some (.int (nI (c i 4)))) (some (.int (zI (H.testBit (c i 4))))) (some (.int (zI (H.testBit (c i 4) || S.testBit (c i 4))))) (by omega) (hX.fr (up_ne _ _ q0) (fun d h1 h2 => up_ne _ _ (q12 d h1 h2))) (by simp (disch := omega) only [up_eq, up_ne, h5]) (by simp (disch := omega) only [up_eq, up_ne, h1]) (by simp (disch := omega) only [up_eq, up_ne, h2]) (by rw [eN]; exact hH) (by rw [eN]; exact hS) (by rw [up_ne _ _ q6]; exact hg) (by rw [up_ne _ _ q3]; exact hf)
          simp (disch := omega) only [up_eq, up_ne, up_up, eN] at e1 e2 e3 e4
          refine ⟨f, ?_, e2, e3, e4⟩
          refine t_doNo hQ hX hv hin e5 h5 h1 h2 H31 S31 _ _ rfl rfl hf1 (fun z => absurd (z.symm.trans ed) (by decide)) (fun _ => ?_) l5 l6 l7 e1
          have := c_doOne (Lx := Lx) (J := J) hQ (qX (up (F Q) 4 (F Q 4 + (if (H.testBit (c i 4) || S.testBit (c i 4)) = true then nI (kap c i) else nI 0)))) hv hin e5 es
          rw [up_eq, up_up, up_ne _ _ (by omega : (3 : Nat) ≠ 4)] at this
          rw [this, ed, Bool.true_or, if_pos rfl]
      · rw [if_neg ed]
        have ed' : H.testBit (c i 4) = false := by simpa using ed
        obtain ⟨f, e1, e2, e3, e4⟩ := ih (i + 1) (up F Q (up (F Q) 4 (F Q 4 + (if (H.testBit (c i 4) || S.testBit (c i 4)) = true then nI (kap c i) else nI 0)))) A H S (some (.int (nI (c i 4)))) (some (.int (zI (H.testBit (c i 4))))) (some (.int (zI (H.testBit (c i 4) || S.testBit (c i 4))))) (by omega) (qX _) (by simp (disch := omega) only [up_eq, up_ne, h5]) (by simp (disch := omega) only [up_eq, up_ne, h1]) (by simp (disch := omega) only [up_eq, up_ne, h2]) (by rw [eN]; exact hH) (by rw [eN]; exact hS) hg hf
        have en : (if (H.testBit (c i 4) || S.testBit (c i 4)) = true then nI (kap c i) else nI 0) = (if S.testBit (c i 4) = true then nI (kap c i) else nI 0) := by rw [ed', Bool.false_or]
        refine ⟨f, ?_, ?_, ?_, ?_⟩
        · refine t_doNo hQ hX hv hin e5 h5 h1 h2 H31 S31 _ _ rfl rfl hf1 (σ2 := mk Lx (up F Q (up (F Q) 4 (F Q 4 + (if (H.testBit (c i 4) || S.testBit (c i 4)) = true then nI (kap c i) else nI 0)))) A J) (fun _ => rfl) (fun z => absurd z ed) l5 l6 l7 ?_
          simp (disch := omega) only [up_eq, up_ne, up_up, eN, en] at e1
          rw [en]
          exact e1
        · simp (disch := omega) only [up_eq, up_ne, en] at e2
          exact e2
        · simp (disch := omega) only [up_eq, up_ne, en] at e3
          exact e3
        · simp (disch := omega) only [up_eq, up_ne, en] at e4
          exact e4
end RUN10
