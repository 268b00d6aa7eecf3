section ALL6B
variable {Lx : Nat} {J : Nat → Nat → Int64} {b : Nat → Nat} {t : Nat}
/-- what the class leaves when it has read the text -/
def outX (F A F' A' : Nat → Nat → Int32) (R : Bool × Nat × Nat × (Nat → Nat → Nat)) : Prop := (R.1 = true → F' 1 8 = F 1 8 ∧ XP F' A' 2 R.2.1 R.2.2.2 (fun _ => 2) 255) ∧ (R.1 = false → F' 1 8 = nI R.2.1 ∧ F' 1 9 = nI R.2.2.1) ∧ (∀ p, p ≠ 1 → p ≠ 2 → F' p = F p) ∧ ∀ q, q < 3 ∨ 9 < q → q ≠ 11 → A' q = A q
theorem l_takeAll : ∀ k p r n (c : Nat → Nat → Nat) d (o : Nat → Nat) (F A : Nat → Nat → Int32) (l2 : Option Value), t < p + k → r ≤ p → p ≤ t → cx F A b t n c d o → F 1 7 = nI p → PV n c (fun _ => 2) 255 → SV n c d o → ∃ F' A', den mX5_takeAll 24 [some (.ref 1), some (.int (nI r)), l2] [] (mk Lx F A J) = some (some (.int (zI (prs b t k p n c d o).1)), mk Lx F' A' J) ∧ outX F A F' A' (prs b t k p n c d o) := by
  intro k
  induction k with
  | zero => intro p r n c d o F A l2 h1 h2 h3; omega
  | succ k ih =>
    intro p r n c d o F A l2 hk hr hp h h7 hv hsv
    have ht := h.1.1
    have hn6 := hv.2.1
    have hl := t_le (b := b) hp
    have hkv := tKv h.1 p
    have r320 : ¬ 320 < r := by omega
    have hd6 : d ≤ 6 := by have := hsv.1; omega
    obtain ⟨f, g1, g3, g4, g6, g7, gk, gb⟩ := c_readToken (Lx := Lx) (J := J) h.1 hp h7
    rw [prs]
    by_cases k7 : tK b t p = 7
    · rw [if_pos k7]
      rw [if_pos k7] at g1
      refine ⟨up F 1 f, A, ?_, (fun z => by cases z), fun _ => ?_, fun q h1 _ => up_ne _ _ h1, fun _ _ _ => rfl⟩
      · rw [hX5_takeAll_24]
        simp (disch := omega) only [SX5_takeAll_0, SX5_takeAll_1, O1, nI_ltI, r320, g1, zIf, Option.bind_some, Option.bind_none, if_true, if_false, zr0, zr1, one11, one01, one0, one1, Option.toList_some, Option.toList_none, List.cons_append, List.nil_append, Nat.reduceEqDiff, Nat.reduceAdd, not_false_eq_true, not_true_eq_false, and_true, true_and, and_false, false_and, or_true, true_or, or_false, false_or, and_self, or_self, Bool.false_eq_true]
      · rw [up_eq]; exact gb k7
    · rw [if_neg k7]
      rw [if_neg k7] at g1
      obtain ⟨g5, g8⟩ := gk k7
      have hc1 : cx (up F 1 f) A b t n c d o := ⟨h.1.fr g3, h.2.1.fr (up_ne _ _ (by omega)) (fun _ _ _ => rfl), by rw [up_eq, g4]; exact h.2.2.1, h.2.2.2⟩
      have hd1 : f 4 = nI d := g4.trans h.2.2.1
      by_cases k0 : tK b t p = 0 ∧ d = 0
      · rw [if_pos k0]
        refine ⟨up F 1 f, A, ?_, fun _ => ?_, (fun z => by cases z), fun q h1 _ => up_ne _ _ h1, fun _ _ _ => rfl⟩
        · rw [k0.1] at g5
          rw [k0.2] at hd1
          rw [hX5_takeAll_24]
          simp (disch := omega) only [SX5_takeAll_0, SX5_takeAll_1, G1, O1, nI_ltI, r320, g1, up_eq, g5, hd1, zIt, Option.bind_some, Option.bind_none, if_true, if_false, zr0, zr1, one11, one01, one0, one1, Option.toList_some, Option.toList_none, List.cons_append, List.nil_append, Nat.reduceEqDiff, Nat.reduceAdd, not_false_eq_true, not_true_eq_false, and_true, true_and, and_false, false_and, or_true, true_or, or_false, false_or, and_self, or_self, Bool.false_eq_true]
        · rw [up_eq]; exact ⟨g8, hc1.2.1⟩
      · rw [if_neg k0]
        have dg : ∀ X : Option (Option Value × dS), den mX5_takeAll 56 [some (.ref 1), some (.int (nI r)), l2] [] (mk Lx (up F 1 f) A J) = X → den mX5_takeAll 24 [some (.ref 1), some (.int (nI r)), l2] [] (mk Lx F A J) = X := fun X hX => by
          rw [hX5_takeAll_24]
          by_cases z0 : tK b t p = 0
          · have d0 : ¬ d = 0 := fun z => k0 ⟨z0, z⟩
            rw [z0] at g5
            simp (disch := omega) only [SX5_takeAll_0, SX5_takeAll_1, G1, O1, nI_ltI, r320, g1, up_eq, g5, hd1, nI_e0, nI_eq, d0, Option.bind_some, Option.bind_none, if_true, if_false, zr0, zr1, one11, one01, one0, one1, Option.toList_some, Option.toList_none, List.cons_append, List.nil_append, Nat.reduceEqDiff, Nat.reduceAdd, not_false_eq_true, not_true_eq_false, and_true, true_and, and_false, false_and, or_true, true_or, or_false, false_or, and_self, or_self, Bool.false_eq_true] at hX ⊢
            exact hX
          · simp (disch := omega) only [SX5_takeAll_0, SX5_takeAll_1, G1, O1, nI_ltI, r320, g1, up_eq, g5, hd1, nI_e0, nI_eq, z0, Option.bind_some, Option.bind_none, if_true, if_false, zr0, zr1, one11, one01, one0, one1, Option.toList_some, Option.toList_none, List.cons_append, List.nil_append, Nat.reduceEqDiff, Nat.reduceAdd, not_false_eq_true, not_true_eq_false, and_true, true_and, and_false, false_and, or_true, true_or, or_false, false_or, and_self, or_self, Bool.false_eq_true] at hX ⊢
            exact hX
        by_cases k1 : tK b t p = 1
        · rw [if_pos k1]
          rw [k1] at g5
          have h6 : up F 1 f 1 6 = nI (tS b t p) := by rw [up_eq]; exact g6
          have h7' : up F 1 f 1 7 = nI (tE b t p) := by rw [up_eq]; exact g7
          have kl := kn_le (b := b) (tS b t p) (tE b t p)
          by_cases c6 : kn b (tS b t p) (tE b t p) = 6
          · rw [if_pos c6]
            have e := c_stmB1 (Lx := Lx) (J := J) hc1.1 hl.2.1 hl.2.2.1 h6 h7' c6
            rw [up_up, up_eq] at e
            refine ⟨up F 1 (up (up f 8 (nI 2)) 9 (nI (tS b t p))), A, dg _ ?_, (fun z => by cases z), fun _ => ?_, fun q h1 _ => up_ne _ _ h1, fun _ _ _ => rfl⟩
            · simp (disch := omega) only [SX5_takeAll_0, SX5_takeAll_1, G1, O1, up_eq, g5, e, zIf, eq_self_iff_true, Option.bind_some, Option.bind_none, if_true, if_false, zr0, zr1, one11, one01, one0, one1, Option.toList_some, Option.toList_none, List.cons_append, List.nil_append, Nat.reduceEqDiff, Nat.reduceAdd, not_false_eq_true, not_true_eq_false, and_true, true_and, and_false, false_and, or_true, true_or, or_false, false_or, and_self, or_self, Bool.false_eq_true]
            · simp (disch := omega) only [up_eq, up_ne]; exact ⟨trivial, trivial⟩
          · rw [if_neg c6]
            by_cases rm : n < 24 ∧ (kn b (tS b t p) (tE b t p) = 5 → nif c n < 6)
            · rw [if_neg (fun z => z rm)]
              by_cases smf : (stm b t (kn b (tS b t p) (tE b t p)) (tE b t p)).1 = false
              · rw [if_pos smf]
                obtain ⟨f2, q3, q4, qf, -⟩ := c_stm4 (Lx := Lx) (J := J) hc1 hv hl.2.1 hl.2.2.1 h6 h7' rfl (by omega) rm
                obtain ⟨q8, q9, e⟩ := qf smf
                rw [up_up] at e
                refine ⟨up F 1 f2, A, dg _ ?_, (fun z => by cases z), fun _ => ?_, fun q h1 _ => up_ne _ _ h1, fun _ _ _ => rfl⟩
                · simp (disch := omega) only [SX5_takeAll_0, SX5_takeAll_1, G1, O1, up_eq, g5, e, zIf, eq_self_iff_true, Option.bind_some, Option.bind_none, if_true, if_false, zr0, zr1, one11, one01, one0, one1, Option.toList_some, Option.toList_none, List.cons_append, List.nil_append, Nat.reduceEqDiff, Nat.reduceAdd, not_false_eq_true, not_true_eq_false, and_true, true_and, and_false, false_and, or_true, true_or, or_false, false_or, and_self, or_self, Bool.false_eq_true]
                · rw [up_eq]; exact ⟨q8, q9⟩
              · rw [if_neg smf]
                have sm : (stm b t (kn b (tS b t p) (tE b t p)) (tE b t p)).1 = true := by simpa using smf
                obtain ⟨F2, A2, e, q1, q2, q3, q4, q5⟩ := c_stmOk (Lx := Lx) (J := J) hc1 hv hsv hl.2.1 hl.2.2.1 h6 h7' rfl (by omega) rm sm
                obtain ⟨o1, o2, o3, o4, o5, o6, o7, o8, o9, o10⟩ := stm_ok hl.2.2.1 sm
                obtain ⟨pv, sv⟩ := PV_app (ws := fun _ => 2) (fun _ => Nat.le_refl 2) hv hsv (kd := kn b (tS b t p) (tE b t p)) rm.1 (by omega) rm.2 o8 o9 o10
                have l4 := hl.2.2.2 (by omega)
                obtain ⟨F3, A3, i1, i2, i3, i4, i5⟩ := ih (stm b t (kn b (tS b t p) (tE b t p)) (tE b t p)).2.2 (r + 1) _ _ _ _ F2 A2 (some (.int (nI 1))) (by omega) (by omega) o7 q1 q2 pv sv
                refine ⟨F3, A3, dg _ ?_, fun z => ?_, i3, fun p h1 h2 => by rw [i4 p h1 h2, q4 p h1 h2, up_ne _ _ h1], fun q h1 h2 => by rw [i5 q h1 h2, q5 q h1 h2]⟩
                · simp (disch := omega) only [SX5_takeAll_0, SX5_takeAll_1, G1, O1, up_eq, g5, e, nI_add, i1, eq_self_iff_true, Option.bind_some, Option.bind_none, if_true, if_false, zr0, zr1, one11, one01, one0, one1, Option.toList_some, Option.toList_none, List.cons_append, List.nil_append, Nat.reduceEqDiff, Nat.reduceAdd, not_false_eq_true, not_true_eq_false, and_true, true_and, and_false, false_and, or_true, true_or, or_false, false_or, and_self, or_self, Bool.false_eq_true]
                · obtain ⟨j1, j2⟩ := i2 z
                  exact ⟨by rw [j1, q3, up_eq]; exact g8, j2⟩
            · rw [if_pos rm]
              have e := c_stmB2 (Lx := Lx) (J := J) hc1 hv hl.2.1 hl.2.2.1 h6 h7' rfl (by omega) rm
              rw [up_up, up_eq] at e
              refine ⟨up F 1 (up (up f 8 (nI 5)) 9 (nI (tS b t p))), A, dg _ ?_, (fun z => by cases z), fun _ => ?_, fun q h1 _ => up_ne _ _ h1, fun _ _ _ => rfl⟩
              · simp (disch := omega) only [SX5_takeAll_0, SX5_takeAll_1, G1, O1, up_eq, g5, e, zIf, eq_self_iff_true, Option.bind_some, Option.bind_none, if_true, if_false, zr0, zr1, one11, one01, one0, one1, Option.toList_some, Option.toList_none, List.cons_append, List.nil_append, Nat.reduceEqDiff, Nat.reduceAdd, not_false_eq_true, not_true_eq_false, and_true, true_and, and_false, false_and, or_true, true_or, or_false, false_or, and_self, or_self, Bool.false_eq_true]
              · simp (disch := omega) only [up_eq, up_ne]; exact ⟨trivial, trivial⟩
        · rw [if_neg k1]
          by_cases k5 : tK b t p = 125 ∧ 0 < d
          · rw [if_pos k5]
            rw [k5.1] at g5
            have hg : o (d - 1) ≤ 12 := by have := (hsv.2.1 (d - 1) (by omega)).2; omega
            have l4 := hl.2.2.2 (by omega)
            have z125 : ¬ (125 : Nat) = 1 := by decide
            by_cases od : o (d - 1) % 2 = 1
            · rw [if_pos od]
              obtain ⟨f2, e, q3, q4, qt, qf⟩ := c_closeY (Lx := Lx) (J := J) hc1 hl.2.2.1 (by rw [up_eq]; exact g5) (by rw [up_eq]; exact g7) k5.2 hd6 hg od
              rw [up_up] at e
              rw [up_eq] at q3 q4 qt
              by_cases smf : (sg b t 123 (tE b t p)).1 = false
              · rw [if_pos smf]
                rw [smf, zIf] at e
                refine ⟨up F 1 f2, up A 11 (up (A 11) (d - 1) (nI (o (d - 1) + 1))), dg _ ?_, (fun z => by cases z), fun _ => ?_, fun q h1 _ => up_ne _ _ h1, fun q _ h2 => up_ne _ _ h2⟩
                · simp (disch := omega) only [SX5_takeAll_0, SX5_takeAll_1, G1, O1, up_eq, g5, nI_eq, z125, e, zIf, Option.bind_some, Option.bind_none, if_true, if_false, zr0, zr1, one11, one01, one0, one1, Option.toList_some, Option.toList_none, List.cons_append, List.nil_append, Nat.reduceEqDiff, Nat.reduceAdd, not_false_eq_true, not_true_eq_false, and_true, true_and, and_false, false_and, or_true, true_or, or_false, false_or, and_self, or_self, Bool.false_eq_true]
                · rw [up_eq]; exact qf smf
              · rw [if_neg smf]
                have sm : (sg b t 123 (tE b t p)).1 = true := by simpa using smf
                rw [sm, zIt] at e
                have o4 := sg_ok (by decide) hl.2.2.1 sm
                obtain ⟨m7, m8⟩ := qt sm
                obtain ⟨F3, A3, i1, i2, i3, i4, i5⟩ := ih (sg b t 123 (tE b t p)).2.2 (r + 1) n c d (up o (d - 1) (o (d - 1) + 1)) (up F 1 f2) (up A 11 (up (A 11) (d - 1) (nI (o (d - 1) + 1)))) (some (.int (nI 1))) (by omega) (by omega) o4.2.1 ⟨⟨ht, by rw [up_eq, q3, g3]; exact h.1.2.1, by rw [up_ne _ _ (by omega)]; exact h.1.2.2⟩, h.2.1.fr (up_ne _ _ (by omega)) (fun d _ _ => up_ne _ _ (by omega)), by rw [up_eq, q4, g4]; exact h.2.2.1, fun i hi => by
                  rw [up_eq]
                  by_cases z : i = d - 1
                  · rw [z, up_eq, up_eq]
                  · rw [up_ne _ _ z, up_ne _ _ z]; exact h.2.2.2 i hi⟩ (by rw [up_eq]; exact m7) hv (SV_other hsv k5.2 od)
                refine ⟨F3, A3, dg _ ?_, fun z => ?_, i3, fun p h1 h2 => by rw [i4 p h1 h2, up_ne _ _ h1], fun q h1 h2 => by rw [i5 q h1 h2, up_ne _ _ h2]⟩
                · simp (disch := omega) only [SX5_takeAll_0, SX5_takeAll_1, G1, O1, up_eq, g5, nI_eq, z125, e, nI_add, i1, Option.bind_some, Option.bind_none, if_true, if_false, zr0, zr1, one11, one01, one0, one1, Option.toList_some, Option.toList_none, List.cons_append, List.nil_append, Nat.reduceEqDiff, Nat.reduceAdd, not_false_eq_true, not_true_eq_false, and_true, true_and, and_false, false_and, or_true, true_or, or_false, false_or, and_self, or_self, Bool.false_eq_true]
                · obtain ⟨j1, j2⟩ := i2 z
                  exact ⟨by rw [j1, up_eq, m8]; exact g8, j2⟩
            · rw [if_neg od]
              have e := c_closeN (Lx := Lx) (J := J) hc1 (by rw [up_eq]; exact g5) k5.2 hd6 hg od
              rw [up_up, up_eq] at e
              obtain ⟨F3, A3, i1, i2, i3, i4, i5⟩ := ih (tE b t p) (r + 1) n c (d - 1) o (up F 1 (up f 4 (nI (d - 1)))) A (some (.int (nI 1))) (by omega) (by omega) hl.2.2.1 ⟨h.1.fr (by rw [up_ne _ _ (by omega)]; exact g3), h.2.1.fr (up_ne _ _ (by omega)) (fun _ _ _ => rfl), by rw [up_eq, up_eq], fun i hi => h.2.2.2 i (by omega)⟩ (by rw [up_eq, up_ne _ _ (by omega)]; exact g7) hv (SV_pop hsv)
              refine ⟨F3, A3, dg _ ?_, fun z => ?_, i3, fun p h1 h2 => by rw [i4 p h1 h2, up_ne _ _ h1], fun q h1 h2 => by rw [i5 q h1 h2]⟩
              · simp (disch := omega) only [SX5_takeAll_0, SX5_takeAll_1, G1, O1, up_eq, g5, nI_eq, z125, e, nI_add, i1, Option.bind_some, Option.bind_none, if_true, if_false, zr0, zr1, one11, one01, one0, one1, Option.toList_some, Option.toList_none, List.cons_append, List.nil_append, Nat.reduceEqDiff, Nat.reduceAdd, not_false_eq_true, not_true_eq_false, and_true, true_and, and_false, false_and, or_true, true_or, or_false, false_or, and_self, or_self, Bool.false_eq_true]
              · obtain ⟨j1, j2⟩ := i2 z
                exact ⟨by rw [j1, up_eq, up_ne _ _ (by omega)]; exact g8, j2⟩
          · rw [if_neg k5]
            have e := c_closeB (Lx := Lx) (J := J) hc1 (s := tS b t p) (k := tK b t p) (by rw [up_eq]; exact g5) hkv (by rw [up_eq]; exact g6) k5 hd6
            rw [up_up, up_eq] at e
            refine ⟨up F 1 (up (up f 8 (nI 2)) 9 (nI (tS b t p))), A, dg _ ?_, (fun z => by cases z), fun _ => ?_, fun q h1 _ => up_ne _ _ h1, fun _ _ _ => rfl⟩
            · simp (disch := omega) only [SX5_takeAll_0, SX5_takeAll_1, G1, O1, up_eq, g5, nI_eq, k1, e, zIf, Option.bind_some, Option.bind_none, if_true, if_false, zr0, zr1, one11, one01, one0, one1, Option.toList_some, Option.toList_none, List.cons_append, List.nil_append, Nat.reduceEqDiff, Nat.reduceAdd, not_false_eq_true, not_true_eq_false, and_true, true_and, and_false, false_and, or_true, true_or, or_false, false_or, and_self, or_self, Bool.false_eq_true]
            · simp (disch := omega) only [up_eq, up_ne]; exact ⟨trivial, trivial⟩
def c0 : Nat → Nat → Nat := fun _ _ => 0
theorem c_takeAll {F A : Nat → Nat → Int32} (h : tpX F A b t) : ∃ F' A', dcall mX5_takeAll [.ref 1] (mk Lx F A J) = some (some (.int (zI (prs b t (t + 1) 0 0 c0 0 (fun _ => 0)).1)), mk Lx F' A' J) ∧ ((prs b t (t + 1) 0 0 c0 0 (fun _ => 0)).1 = true → F' 1 8 = nI 0 ∧ XP F' A' 2 (prs b t (t + 1) 0 0 c0 0 (fun _ => 0)).2.1 (prs b t (t + 1) 0 0 c0 0 (fun _ => 0)).2.2.2 (fun _ => 2) 255) ∧ ((prs b t (t + 1) 0 0 c0 0 (fun _ => 0)).1 = false → F' 1 8 = nI (prs b t (t + 1) 0 0 c0 0 (fun _ => 0)).2.1 ∧ F' 1 9 = nI (prs b t (t + 1) 0 0 c0 0 (fun _ => 0)).2.2.1) ∧ (∀ p, p ≠ 1 → p ≠ 2 → F' p = F p) ∧ ∀ q, q < 3 ∨ 9 < q → q ≠ 11 → A' q = A q := by
  obtain ⟨F3, A3, i1, i2, i3, i4, i5⟩ := l_takeAll (Lx := Lx) (J := J) (b := b) (t := t) (t + 1) 0 0 0 c0 0 (fun _ => 0) (up (up F 1 (up (up (up (F 1) 4 (nI 0)) 7 (nI 0)) 8 (nI 0))) 2 (up (up (up (F 2) 7 (nI 0)) 8 (nI 0)) 9 (nI 255))) A none (by omega) (by omega) (by omega) ⟨⟨h.1, by simp (disch := omega) only [up_eq, up_ne]; exact h.2.1, h.2.2⟩, ⟨by simp (disch := omega) only [up_eq, up_ne], by simp (disch := omega) only [up_eq, up_ne, nif], by simp (disch := omega) only [up_eq, up_ne], fun i hi => absurd hi (Nat.not_lt_zero i), fun i hi => absurd hi (Nat.not_lt_zero i), fun i hi => absurd hi (Nat.not_lt_zero i)⟩, by simp (disch := omega) only [up_eq, up_ne], fun i hi => absurd hi (Nat.not_lt_zero i)⟩ (by simp (disch := omega) only [up_eq, up_ne]) ⟨by omega, Nat.zero_le 6, by omega, fun i hi => absurd hi (Nat.not_lt_zero i), fun i hi => absurd hi (Nat.not_lt_zero i)⟩ ⟨Nat.le_refl 0, fun i hi => absurd hi (Nat.not_lt_zero i), fun i j _ hi => absurd hi (Nat.not_lt_zero j), fun i hi => absurd hi (Nat.not_lt_zero i)⟩
  refine ⟨F3, A3, ?_, fun z => ?_, i3, fun p h1 h2 => by rw [i4 p h1 h2, up_ne _ _ h2, up_ne _ _ h1], i5⟩
  · simp (disch := omega) only [CX5_takeAll, SX5_takeAll_0, SX5_takeAll_1, CX3_clear, SX3_clear, G1, P1, Op isP_2, Pp isP_2, up_eq, up_ne, up_up, i1, Option.bind_some, Option.bind_none, if_true, if_false, zr0, zr1, one11, one01, one0, one1, Option.toList_some, Option.toList_none, List.cons_append, List.nil_append, Nat.reduceEqDiff, Nat.reduceAdd, not_false_eq_true, not_true_eq_false, and_true, true_and, and_false, false_and, or_true, true_or, or_false, false_or, and_self, or_self, Bool.false_eq_true]
  · obtain ⟨j1, j2⟩ := i2 z
    refine ⟨?_, j2⟩
    rw [j1]
    simp (disch := omega) only [up_eq, up_ne]
end ALL6B
