section TEXT7
variable {Lx : Nat} {J : Nat → Nat → Int64} {b : Nat → Nat} {t : Nat}
def outM (F' A' : Nat → Nat → Int32) (R : Bool × Nat × Nat × (Nat → Nat → Nat)) : Prop := (R.1 = true → F' 56 10 = nI 0 ∧ M0 (A' 60) R.2.1 R.2.2.2 (fun _ => 2) 255) ∧ (R.1 = false → FT (F' 56) R.2.1 R.2.2.1)
theorem l_text7 : ∀ k p n (c : Nat → Nat → Nat) d (o : Nat → Nat) (F A : Nat → Nat → Int32), t < p + k → t ≤ 320 → RT (F 56) b t p → (tK b t p ≠ 7 → cm F A b t n c d o) → PV n c (fun _ => 2) 255 → SV n c d o → ∃ F' A', outM F' A' (prs b t k p n c d o) ∧ frM F A F' A' ∧ ∀ X : Option (Option Value × dS), den mX7_text 78 [some (.ref 56)] [] (mk Lx F' A' J) = X → den mX7_text 28 [some (.ref 56)] [] (mk Lx F A J) = X := by
  obtain ⟨-, -, -, -, -, -, -, -, -, -, -, -, -, -, -, -, r29, r32, r35, r36, r39, r42, r43, r46, r49, r50, r53, r54, r57, r58, r61, r64, r65, r68, r71, r72, r75, -⟩ := SX7_text_0
  have quit : ∀ (F A : Nat → Nat → Int32) (e q : Nat), FT (F 56) e q → ∀ X : Option (Option Value × dS), den mX7_text 78 [some (.ref 56)] [] (mk Lx F A J) = X → den mX7_text 28 [some (.ref 56)] [] (mk Lx F A J) = X := fun F A e q hf X hX => by
    obtain ⟨h0, h9, h10, -⟩ := hf
    have e0 : ¬ e = 0 := by omega
    rw [hX7_text_28]
    simp (disch := omega) only [r29, r32, G56, h10, nI_e0, e0, hX, Option.bind_some, Option.bind_none, if_true, if_false, zr0, zr1, one11, one01, one0, one1, Option.toList_some, Option.toList_none, List.cons_append, List.nil_append, Nat.reduceEqDiff, Nat.reduceAdd, not_false_eq_true, not_true_eq_false, and_true, true_and, and_false, false_and, or_true, true_or, or_false, false_or, and_self, or_self, Bool.false_eq_true]
  intro k
  induction k with
  | zero => intro p n c d o F A h1 h2 h3; have := h3.1; omega
  | succ k ih =>
    intro p n c d o F A hk ht hr hcm hv hsv
    have hp := hr.1
    have hl := t_le (b := b) hp
    have hn6 := hv.2.1
    have hn := hv.1
    have sl := sK_le b t p
    have hd6 : d ≤ 6 := by have := hsv.1; omega
    rw [prs]
    by_cases k7 : tK b t p = 7
    · rw [if_pos k7]
      have hf := hr.ft ht k7
      exact ⟨F, A, ⟨(fun z => by cases z), fun _ => hf⟩, ⟨fun _ _ => rfl, fun _ _ => rfl, fun _ _ _ => rfl⟩, quit F A _ _ hf⟩
    · rw [if_neg k7]
      obtain ⟨g10, g8⟩ := hr.2.2.2.1 k7
      have hc := hcm k7
      have h13 := hc.2.2.2.2.1
      by_cases k0 : tK b t p = 0 ∧ d = 0
      · rw [if_pos k0]
        refine ⟨F, A, ⟨fun _ => ⟨g10, hc.2.1⟩, (fun z => by cases z)⟩, ⟨fun _ _ => rfl, fun _ _ => rfl, fun _ _ _ => rfl⟩, fun X hX => ?_⟩
        have s0 := sK_0.mpr k0.1
        rw [s0] at g8
        rw [k0.2] at h13
        have z0 : ¬ (0 : Nat) < 0 := by decide
        rw [hX7_text_28]
        simp (disch := omega) only [r29, r32, r35, r36, r39, r42, r43, r46, G56, g10, g8, h13, nI_g0, z0, hX, Option.bind_some, Option.bind_none, if_true, if_false, zr0, zr1, one11, one01, one0, one1, Option.toList_some, Option.toList_none, List.cons_append, List.nil_append, Nat.reduceEqDiff, Nat.reduceAdd, not_false_eq_true, not_true_eq_false, and_true, true_and, and_false, false_and, or_true, true_or, or_false, false_or, and_self, or_self, Bool.false_eq_true]
      · rw [if_neg k0]
        have dg : ∀ X : Option (Option Value × dS), den mX7_text 49 [some (.ref 56)] [] (mk Lx F A J) = X → den mX7_text 28 [some (.ref 56)] [] (mk Lx F A J) = X := fun X hX => by
          rw [hX7_text_28]
          by_cases s0 : tK b t p = 0
          · have d0 : 0 < d := by
              rcases Nat.eq_zero_or_pos d with z | z
              · exact absurd ⟨s0, z⟩ k0
              · exact z
            have s00 := sK_0.mpr s0
            rw [s00] at g8
            simp (disch := omega) only [r29, r32, r35, r36, r39, r42, r43, r46, G56, g10, g8, h13, nI_g0, d0, hX, Option.bind_some, Option.bind_none, if_true, if_false, zr0, zr1, one11, one01, one0, one1, Option.toList_some, Option.toList_none, List.cons_append, List.nil_append, Nat.reduceEqDiff, Nat.reduceAdd, not_false_eq_true, not_true_eq_false, and_true, true_and, and_false, false_and, or_true, true_or, or_false, false_or, and_self, or_self, Bool.false_eq_true]
          · have s00 : ¬ sK (tK b t p) = 0 := fun z => s0 (sK_0.mp z)
            simp (disch := omega) only [r29, r32, r35, r36, r39, G56, g10, g8, nI_e0, s00, hX, Option.bind_some, Option.bind_none, if_true, if_false, zr0, zr1, one11, one01, one0, one1, Option.toList_some, Option.toList_none, List.cons_append, List.nil_append, Nat.reduceEqDiff, Nat.reduceAdd, not_false_eq_true, not_true_eq_false, and_true, true_and, and_false, false_and, or_true, true_or, or_false, false_or, and_self, or_self, Bool.false_eq_true]
        have ds : ¬ (tK b t p = 125 ∧ 0 < d) → ∀ F1 A1, dcall mX7_readStatement [.ref 56] (mk Lx F A J) = some (none, mk Lx F1 A1 J) → ∀ X : Option (Option Value × dS), den mX7_text 28 [some (.ref 56)] [] (mk Lx F1 A1 J) = X → den mX7_text 28 [some (.ref 56)] [] (mk Lx F A J) = X := fun hb F1 A1 hd X hX => dg X (by
          by_cases k5 : tK b t p = 125
          · have d0 : d = 0 := by omega
            have s5 := sK_5.mpr k5
            rw [s5] at g8
            rw [d0] at h13
            have z0 : ¬ (0 : Nat) < 0 := by decide
            simp (disch := omega) only [r49, r50, r53, r54, r57, r58, r61, r71, r72, r75, G56, O56, g8, h13, nI_g0, z0, hd, hX, eq_self_iff_true, Option.bind_some, Option.bind_none, if_true, if_false, zr0, zr1, one11, one01, one0, one1, Option.toList_some, Option.toList_none, List.cons_append, List.nil_append, Nat.reduceEqDiff, Nat.reduceAdd, not_false_eq_true, not_true_eq_false, and_true, true_and, and_false, false_and, or_true, true_or, or_false, false_or, and_self, or_self, Bool.false_eq_true]
          · have s5 : ¬ sK (tK b t p) = 5 := fun z => k5 (sK_5.mp z)
            simp (disch := omega) only [r49, r50, r53, r54, r71, r72, r75, G56, O56, g8, nI_eq, s5, hd, hX, Option.bind_some, Option.bind_none, if_true, if_false, zr0, zr1, one11, one01, one0, one1, Option.toList_some, Option.toList_none, List.cons_append, List.nil_append, Nat.reduceEqDiff, Nat.reduceAdd, not_false_eq_true, not_true_eq_false, and_true, true_and, and_false, false_and, or_true, true_or, or_false, false_or, and_self, or_self, Bool.false_eq_true])
        by_cases k1 : tK b t p = 1
        · rw [if_pos k1]
          have kl := kn_le (b := b) (tS b t p) (tE b t p)
          by_cases c6 : kn b (tS b t p) (tE b t p) = 6
          · rw [if_pos c6]
            have e := c_st7B1 (Lx := Lx) (J := J) hc hn hr k7 (fun z => z.2 c6)
            have hf : FT (up F 56 (up (up (F 56) 10 (nI 2)) 11 (nI (tS b t p))) 56) 2 (tS b t p) := ⟨by decide, by decide, by simp (disch := omega) only [up_eq, up_ne], by simp (disch := omega) only [up_eq], tS b t p, by omega, by simp (disch := omega) only [up_eq, up_ne]; exact hr.2.2.1⟩
            exact ⟨_, A, ⟨(fun z => by cases z), fun _ => hf⟩, ⟨fun q hq => up_ne _ _ hq, fun q hq => by rw [up_eq, up_ne _ _ (by omega), up_ne _ _ (by omega)], fun _ _ _ => rfl⟩, fun X hX => ds (by omega) _ _ e X (quit _ _ _ _ hf X hX)⟩
          · rw [if_neg c6]
            by_cases rm : n < 24 ∧ (kn b (tS b t p) (tE b t p) = 5 → nif c n < 6)
            · rw [if_neg (fun z => z rm)]
              obtain ⟨F1, A1, e, fr, ef, et⟩ := c_st7 (Lx := Lx) (J := J) hc hsv hn6 hr k1 rfl (by omega) rm
              by_cases smf : (stm b t (kn b (tS b t p) (tE b t p)) (tE b t p)).1 = false
              · rw [if_pos smf]
                have hf := ef smf
                exact ⟨F1, A1, ⟨(fun z => by cases z), fun _ => hf⟩, fr, fun X hX => ds (by omega) _ _ e X (quit _ _ _ _ hf X hX)⟩
              · rw [if_neg smf]
                have sm : (stm b t (kn b (tS b t p) (tE b t p)) (tE b t p)).1 = true := by simpa using smf
                obtain ⟨o1, o2, o3, o4, o5, o6, o7, o8, o9, o10⟩ := stm_ok hl.2.2.1 sm
                obtain ⟨pv, sv⟩ := PV_app (ws := fun _ => 2) (fun _ => Nat.le_refl 2) hv hsv (kd := kn b (tS b t p) (tE b t p)) rm.1 (by omega) rm.2 o8 o9 o10
                obtain ⟨rt, hc2⟩ := et sm
                obtain ⟨F2, A2, i1, i2, i3⟩ := ih _ _ _ _ _ F1 A1 (by omega) ht rt hc2 pv sv
                exact ⟨F2, A2, i1, fr.tr i2, fun X hX => ds (by omega) _ _ e X (i3 X hX)⟩
            · rw [if_pos rm]
              have e := c_st7B2 (Lx := Lx) (J := J) hc hn hn6 hr k1 c6 rm
              have hf : FT (up F 56 (up (up (F 56) 10 (nI 5)) 11 (nI (tS b t p))) 56) 5 (tS b t p) := ⟨by decide, by decide, by simp (disch := omega) only [up_eq, up_ne], by simp (disch := omega) only [up_eq], tS b t p, by omega, by simp (disch := omega) only [up_eq, up_ne]; exact hr.2.2.1⟩
              exact ⟨_, A, ⟨(fun z => by cases z), fun _ => hf⟩, ⟨fun q hq => up_ne _ _ hq, fun q hq => by rw [up_eq, up_ne _ _ (by omega), up_ne _ _ (by omega)], fun _ _ _ => rfl⟩, fun X hX => ds (by omega) _ _ e X (quit _ _ _ _ hf X hX)⟩
        · rw [if_neg k1]
          by_cases k5 : tK b t p = 125 ∧ 0 < d
          · rw [if_pos k5]
            have hg : o (d - 1) ≤ 12 := by have := (hsv.2.1 (d - 1) (by omega)).2; omega
            have l4 := hl.2.2.2 (by omega)
            have dq : ∀ F1 A1, dcall mX7_sideEnds [.ref 56] (mk Lx F A J) = some (none, mk Lx F1 A1 J) → ∀ X : Option (Option Value × dS), den mX7_text 28 [some (.ref 56)] [] (mk Lx F1 A1 J) = X → den mX7_text 28 [some (.ref 56)] [] (mk Lx F A J) = X := fun F1 A1 hd X hX => dg X (by
              have s5 := sK_5.mpr k5.1
              rw [s5] at g8
              have d0 := k5.2
              simp (disch := omega) only [r49, r50, r53, r54, r57, r58, r61, r64, r65, r68, G56, O56, g8, h13, nI_g0, d0, hd, hX, eq_self_iff_true, Option.bind_some, Option.bind_none, if_true, if_false, zr0, zr1, one11, one01, one0, one1, Option.toList_some, Option.toList_none, List.cons_append, List.nil_append, Nat.reduceEqDiff, Nat.reduceAdd, not_false_eq_true, not_true_eq_false, and_true, true_and, and_false, false_and, or_true, true_or, or_false, false_or, and_self, or_self, Bool.false_eq_true])
            by_cases od : o (d - 1) % 2 = 1
            · rw [if_pos od]
              obtain ⟨F1, A1, e, fr, go, hc2⟩ := c_sideY (Lx := Lx) (J := J) hc hr k5.1 k5.2 hd6 hg od
              by_cases smf : (sg b t 123 (tE b t p)).1 = false
              · rw [if_pos smf]
                have hf := go.2 smf
                exact ⟨F1, A1, ⟨(fun z => by cases z), fun _ => hf⟩, fr, fun X hX => dq _ _ e X (quit _ _ _ _ hf X hX)⟩
              · rw [if_neg smf]
                have sm : (sg b t 123 (tE b t p)).1 = true := by simpa using smf
                have o4 := sg_ok (by decide) hl.2.2.1 sm
                obtain ⟨F2, A2, i1, i2, i3⟩ := ih _ _ _ _ _ F1 A1 (by omega) ht (go.1 sm) (fun _ => hc2) hv (SV_other hsv k5.2 od)
                exact ⟨F2, A2, i1, fr.tr i2, fun X hX => dq _ _ e X (i3 X hX)⟩
            · rw [if_neg od]
              obtain ⟨F1, A1, e, fr, rt, hc2⟩ := c_sideN (Lx := Lx) (J := J) hc hr k5.1 k5.2 hd6 hg od
              obtain ⟨F2, A2, i1, i2, i3⟩ := ih _ _ _ _ _ F1 A1 (by omega) ht rt (fun _ => hc2) hv (SV_pop hsv)
              exact ⟨F2, A2, i1, fr.tr i2, fun X hX => dq _ _ e X (i3 X hX)⟩
          · rw [if_neg k5]
            have e := c_st7B1 (Lx := Lx) (J := J) hc hn hr k7 (fun z => k1 z.1)
            have hf : FT (up F 56 (up (up (F 56) 10 (nI 2)) 11 (nI (tS b t p))) 56) 2 (tS b t p) := ⟨by decide, by decide, by simp (disch := omega) only [up_eq, up_ne], by simp (disch := omega) only [up_eq], tS b t p, by omega, by simp (disch := omega) only [up_eq, up_ne]; exact hr.2.2.1⟩
            exact ⟨_, A, ⟨(fun z => by cases z), fun _ => hf⟩, ⟨fun q hq => up_ne _ _ hq, fun q hq => by rw [up_eq, up_ne _ _ (by omega), up_ne _ _ (by omega)], fun _ _ _ => rfl⟩, fun X hX => ds k5 _ _ e X (quit _ _ _ _ hf X hX)⟩
variable {F : Nat → Nat → Int32}
theorem l_fd34 : ∀ k j (A : Nat → Nat → Int32), j + k = 6 → ∃ a, den mX7_firstDraft 34 [some (.ref 56), some (.int (nI j))] [] (mk Lx F A J) = some (none, mk Lx F (up A 60 a) J) ∧ (∀ i, j ≤ i → i < 6 → a (122 + i) = nI 2) ∧ ∀ s, s < 122 + j → a s = A 60 s := by
  intro k
  induction k with
  | zero =>
    intro j A hj
    have hlt : ¬ j < 6 := by omega
    refine ⟨A 60, ?_, fun i h1 h2 => absurd h2 (by omega), fun _ _ => rfl⟩
    rw [hX7_firstDraft_34, up_id]
    simp (disch := omega) only [SX7_firstDraft, nI_ltI, hlt, Option.bind_some, Option.bind_none, if_true, if_false, zr0, zr1, one11, one01, one0, one1, Option.toList_some, Option.toList_none, List.cons_append, List.nil_append, Nat.reduceEqDiff, Nat.reduceAdd, not_false_eq_true, not_true_eq_false, and_true, true_and, and_false, false_and, or_true, true_or, or_false, false_or, and_self, or_self, Bool.false_eq_true]
  | succ k ih =>
    intro j A hj
    have hlt : j < 6 := by omega
    obtain ⟨a, e1, e2, e3⟩ := ih (j + 1) (up A 60 (up (A 60) (122 + j) (nI 2))) (by omega)
    rw [up_up] at e1
    refine ⟨a, ?_, fun i h1 h2 => ?_, fun s hs => ?_⟩
    · rw [hX7_firstDraft_34]
      simp (disch := omega) only [SX7_firstDraft, G56, nI_ltI, hlt, nI_add, w60, e1, Option.bind_some, Option.bind_none, if_true, if_false, zr0, zr1, one11, one01, one0, one1, Option.toList_some, Option.toList_none, List.cons_append, List.nil_append, Nat.reduceEqDiff, Nat.reduceAdd, not_false_eq_true, not_true_eq_false, and_true, true_and, and_false, false_and, or_true, true_or, or_false, false_or, and_self, or_self, Bool.false_eq_true]
    · by_cases z : i = j
      · rw [z, e3 _ (by omega), up_eq, up_eq]
      · exact e2 i (by omega) h2
    · rw [e3 s (by omega), up_eq, up_ne _ _ (by omega)]
theorem c_firstDraft {A : Nat → Nat → Int32} : ∃ a, dcall mX7_firstDraft [.ref 56] (mk Lx F A J) = some (none, mk Lx F (up A 60 a) J) ∧ (∀ i, i < 6 → a (122 + i) = nI 2) ∧ a 121 = nI 255 ∧ ∀ s, s < 121 → a s = nI 0 := by
  have l : ∀ k j (A : Nat → Nat → Int32), j + k = 128 → (∀ s, s < j → A 60 s = nI 0) → ∃ a, den mX7_firstDraft 2 [some (.ref 56), some (.int (nI j))] [] (mk Lx F A J) = some (none, mk Lx F (up A 60 a) J) ∧ (∀ i, i < 6 → a (122 + i) = nI 2) ∧ a 121 = nI 255 ∧ ∀ s, s < 121 → a s = nI 0 := by
    intro k
    induction k with
    | zero =>
      intro j A hj hz
      have hlt : ¬ j < 128 := by omega
      obtain ⟨a, e1, e2, e3⟩ := l_fd34 (Lx := Lx) (J := J) (F := F) 6 0 (up A 60 (up (A 60) 121 (nI 255))) (by omega)
      rw [up_up] at e1
      refine ⟨a, ?_, fun i hi => e2 i (by omega) hi, by rw [e3 121 (by omega), up_eq, up_eq], fun s hs => by rw [e3 s (by omega), up_eq, up_ne _ _ (by omega)]; exact hz s (by omega)⟩
      rw [hX7_firstDraft_2]
      simp (disch := omega) only [SX7_firstDraft, G56, nI_ltI, hlt, w60, e1, Option.bind_some, Option.bind_none, if_true, if_false, zr0, zr1, one11, one01, one0, one1, Option.toList_some, Option.toList_none, List.cons_append, List.nil_append, Nat.reduceEqDiff, Nat.reduceAdd, not_false_eq_true, not_true_eq_false, and_true, true_and, and_false, false_and, or_true, true_or, or_false, false_or, and_self, or_self, Bool.false_eq_true]
    | succ k ih =>
      intro j A hj hz
      have hlt : j < 128 := by omega
      obtain ⟨a, e1, e2⟩ := ih (j + 1) (up A 60 (up (A 60) j (nI 0))) (by omega) (fun s hs => by
        rw [up_eq]
        by_cases z : s = j
        · rw [z, up_eq]
        · rw [up_ne _ _ z]; exact hz s (by omega))
      rw [up_up] at e1
      refine ⟨a, ?_, e2⟩
      rw [hX7_firstDraft_2]
      simp (disch := omega) only [SX7_firstDraft, G56, nI_ltI, hlt, w60, nI_add, e1, Option.bind_some, Option.bind_none, if_true, if_false, zr0, zr1, one11, one01, one0, one1, Option.toList_some, Option.toList_none, List.cons_append, List.nil_append, Nat.reduceEqDiff, Nat.reduceAdd, not_false_eq_true, not_true_eq_false, and_true, true_and, and_false, false_and, or_true, true_or, or_false, false_or, and_self, or_self, Bool.false_eq_true]
  obtain ⟨a, e1, e2⟩ := l 128 0 A (by omega) (fun s hs => absurd hs (Nat.not_lt_zero s))
  refine ⟨a, ?_, e2⟩
  simp (disch := omega) only [CX7_firstDraft, SX7_firstDraft, e1, Option.bind_some, Option.bind_none, if_true, if_false, zr0, zr1, one11, one01, one0, one1, Option.toList_some, Option.toList_none, List.cons_append, List.nil_append, Nat.reduceEqDiff, Nat.reduceAdd, not_false_eq_true, not_true_eq_false, and_true, true_and, and_false, false_and, or_true, true_or, or_false, false_or, and_self, or_self, Bool.false_eq_true]
theorem c_keepDraft {A : Nat → Nat → Int32} : ∃ a z, dcall mX7_keepDraft [.ref 56] (mk Lx F A J) = some (none, mk Lx (up F 56 (up (F 56) 20 (nI 0))) (up (up A 57 a) 59 z) J) ∧ (∀ s, s < 128 → a s = A 60 s) ∧ z 0 = nI 0 ∧ z 1 = nI 0 := by
  have l : ∀ k j (A : Nat → Nat → Int32), j + k = 128 → ∃ a, (∀ s, s < 128 → a s = if j ≤ s then A 60 s else A 57 s) ∧ den mX7_keepDraft 2 [some (.ref 56), some (.int (nI j))] [] (mk Lx F A J) = some (none, mk Lx (up F 56 (up (F 56) 20 (nI 0))) (up (up A 57 a) 59 (up (up (A 59) 0 (nI 0)) 1 (nI 0))) J) := by
    intro k
    induction k with
    | zero =>
      intro j A hj
      have hlt : ¬ j < 128 := by omega
      refine ⟨A 57, fun s hs => by rw [if_neg (by omega)], ?_⟩
      rw [hX7_keepDraft_2, up_id]
      simp (disch := omega) only [SX7_keepDraft, G56, P56, nI_ltI, hlt, w59, narZ0, up_eq, up_up, Option.bind_some, Option.bind_none, if_true, if_false, zr0, zr1, one11, one01, one0, one1, Option.toList_some, Option.toList_none, List.cons_append, List.nil_append, Nat.reduceEqDiff, Nat.reduceAdd, not_false_eq_true, not_true_eq_false, and_true, true_and, and_false, false_and, or_true, true_or, or_false, false_or, and_self, or_self, Bool.false_eq_true]
    | succ k ih =>
      intro j A hj
      have hlt : j < 128 := by omega
      obtain ⟨a, e1, e2⟩ := ih (j + 1) (up A 57 (up (A 57) j (A 60 j))) (by omega)
      rw [up_up, up_ne _ _ (by omega : (59 : Nat) ≠ 57)] at e2
      refine ⟨a, fun s hs => ?_, ?_⟩
      · rw [e1 s hs, up_ne _ _ (by omega), up_eq]
        by_cases z : s = j
        · rw [z, if_neg (by omega), up_eq, if_pos (Nat.le_refl j)]
        · rw [up_ne _ _ z]
          by_cases y : j ≤ s
          · rw [if_pos (by omega), if_pos y]
          · rw [if_neg (by omega), if_neg y]
      · rw [hX7_keepDraft_2]
        simp (disch := omega) only [SX7_keepDraft, G56, leN, nI_ltI, hlt, a60, w57, nI_add, e2, Option.bind_some, Option.bind_none, if_true, if_false, zr0, zr1, one11, one01, one0, one1, Option.toList_some, Option.toList_none, List.cons_append, List.nil_append, Nat.reduceEqDiff, Nat.reduceAdd, not_false_eq_true, not_true_eq_false, and_true, true_and, and_false, false_and, or_true, true_or, or_false, false_or, and_self, or_self, Bool.false_eq_true]
  obtain ⟨a, e1, e2⟩ := l 128 0 A (by omega)
  refine ⟨a, up (up (A 59) 0 (nI 0)) 1 (nI 0), ?_, fun s hs => by rw [e1 s hs, if_pos (Nat.zero_le s)], ?_, ?_⟩
  · simp (disch := omega) only [CX7_keepDraft, SX7_keepDraft, e2, Option.bind_some, Option.bind_none, if_true, if_false, zr0, zr1, one11, one01, one0, one1, Option.toList_some, Option.toList_none, List.cons_append, List.nil_append, Nat.reduceEqDiff, Nat.reduceAdd, not_false_eq_true, not_true_eq_false, and_true, true_and, and_false, false_and, or_true, true_or, or_false, false_or, and_self, or_self, Bool.false_eq_true]
  · simp (disch := omega) only [up_eq, up_ne]
  · simp (disch := omega) only [up_eq]
end TEXT7
