section TEXTOP
variable {Lx : Nat} {xs : Nat → Int32} {σ : dS}
theorem Inv.frX {F A F' A' : Nat → Nat → Int32} (h : Inv F A) (hF : ∀ p, p ≠ 1 → p ≠ 2 → p ≠ 56 → F' p = F p) (h3 : F' 1 3 = nI 0) (h5 : F' 56 5 = nI 0) (h8 : F' 1 8 = F' 56 10) (h20 : F' 56 20 = F 56 20) (h21 : F' 56 21 = F 56 21) (h32 : F' 56 32 = F 56 32) (hA : ∀ q, q < 3 ∨ 9 < q → q ≠ 11 → q ≠ 60 → q ≠ 62 → A' q = A q) : Inv F' A' := by
  obtain ⟨-, hP, ⟨hI0, hI1⟩, hR, ⟨hS0, hS1, hS2, hS3⟩, -, hto⟩ := h
  refine ⟨⟨0, by omega, h3, h5, fun k hk => absurd hk (Nat.not_lt_zero k)⟩, hP.fr (by apply hF <;> omega) (fun d _ _ => by apply hA <;> omega) (by apply hA <;> omega), ⟨hI0.fr (by apply hF <;> omega) (fun d _ _ => by apply hA <;> omega) (by rw [hA] <;> omega) (by rw [hA] <;> omega) (fun t _ => by rw [hA] <;> omega), hI1.fr (by apply hF <;> omega) (fun d _ _ => by apply hA <;> omega) (by rw [hA] <;> omega) (by rw [hA] <;> omega) (fun t _ => by rw [hA] <;> omega)⟩, hR.fr (by rw [hF] <;> omega) h20 (by apply hF <;> omega) h21 (by apply hA <;> omega) (by apply hA <;> omega), ⟨hS0.fr (by apply hF <;> omega) (by apply hA <;> omega) (by rw [hA] <;> omega) (by rw [hA] <;> omega) (fun t _ => by rw [hA] <;> omega), hS1.fr (by apply hF <;> omega) (by apply hA <;> omega) (by rw [hA] <;> omega) (by rw [hA] <;> omega) (fun t _ => by rw [hA] <;> omega), hS2.fr (by apply hF <;> omega) (by apply hA <;> omega) (by rw [hA] <;> omega) (by rw [hA] <;> omega) (fun t _ => by rw [hA] <;> omega), hS3.fr (by apply hF <;> omega) (by apply hA <;> omega) (by rw [hA] <;> omega) (by rw [hA] <;> omega) (fun t _ => by rw [hA] <;> omega)⟩, h8, ?_⟩
  rw [hF 0 (by omega) (by omega) (by omega), h32]; exact hto
theorem Inv.frY {F A F' A' : Nat → Nat → Int32} (h : Inv F A) (hF : ∀ p, p ≠ 0 → p ≠ 1 → p ≠ 2 → p ≠ 12 → p ≠ 56 → F' p = F p) (h3 : F' 1 3 = nI 0) (h5 : F' 56 5 = nI 0) (h8 : F' 1 8 = F' 56 10) (h08 : F' 0 8 = nI 0) (h09 : F' 0 9 = F 0 9) (h20 : F' 56 20 = nI 0) (h32 : F' 56 32 = F 56 32) (z0 : A' 21 0 = nI 0) (z1 : A' 21 1 = nI 0) (y0 : A' 59 0 = nI 0) (y1 : A' 59 1 = nI 0) (hA : ∀ q, q < 3 ∨ 19 < q → q ≠ 21 → q ≠ 57 → q ≠ 59 → q ≠ 60 → q ≠ 62 → A' q = A q) (hP : iP F' A') : Inv F' A' := by
  obtain ⟨-, -, -, -, ⟨hS0, hS1, hS2, hS3⟩, -, hto⟩ := h
  refine ⟨⟨0, by omega, h3, h5, fun k hk => absurd hk (Nat.not_lt_zero k)⟩, hP, ⟨Or.inl ⟨z0, y0⟩, Or.inl ⟨z1, y1⟩⟩, Or.inl ⟨h08, h20⟩, ⟨hS0.fr (by apply hF <;> omega) (by apply hA <;> omega) (by rw [hA] <;> omega) (by rw [hA] <;> omega) (fun t _ => by rw [hA] <;> omega), hS1.fr (by apply hF <;> omega) (by apply hA <;> omega) (by rw [hA] <;> omega) (by rw [hA] <;> omega) (fun t _ => by rw [hA] <;> omega), hS2.fr (by apply hF <;> omega) (by apply hA <;> omega) (by rw [hA] <;> omega) (by rw [hA] <;> omega) (fun t _ => by rw [hA] <;> omega), hS3.fr (by apply hF <;> omega) (by apply hA <;> omega) (by rw [hA] <;> omega) (by rw [hA] <;> omega) (fun t _ => by rw [hA] <;> omega)⟩, h8, ?_⟩
  rw [h09, h32]; exact hto
/-- the reference reads the text to its end -/
theorem c_rdAll {F A : Nat → Nat → Int32} {J : Nat → Nat → Int64} {b : Nat → Nat} {t : Nat} (h : tpM F A b t) : ∃ F' A', outM F' A' (prs b t (t + 1) 0 0 c0 0 (fun _ => 0)) ∧ frM F A F' A' ∧ ∀ X : Option (Option Value × dS), den mX7_text 78 [some (.ref 56)] [] (mk Lx F' A' J) = X → dcall mX7_text [.ref 56] (mk Lx F A J) = X := by
  obtain ⟨a, d1, d2, d3, d4⟩ := c_firstDraft (Lx := Lx) (J := J) (F := up F 56 (up (up (up (up (F 56) 10 (nI 0)) 6 (nI 0)) 13 (nI 0)) 14 (nI 0))) (A := A)
  have hT : tpM (up F 56 (up (up (up (up (F 56) 10 (nI 0)) 6 (nI 0)) 13 (nI 0)) 14 (nI 0))) (up A 60 a) b t := ⟨h.1, by simp (disch := omega) only [up_eq, up_ne]; exact h.2.1, by rw [up_ne _ _ (by omega)]; exact h.2.2⟩
  obtain ⟨f, q1, q2⟩ := c_reads (Lx := Lx) (J := J) hT (p := 0) (by omega) (by simp (disch := omega) only [up_eq, up_ne]) (by simp (disch := omega) only [up_eq, up_ne])
  obtain ⟨rt, fr⟩ := q2.rt (Nat.zero_le t)
  rw [up_up] at q1
  rw [up_eq] at fr
  have f5 : f 5 = nI t := by rw [fr 5 (by omega) (by omega) (by omega) (by omega) (by omega) (by omega)]; simp (disch := omega) only [up_ne]; exact h.2.1
  have f13 : f 13 = nI 0 := by rw [fr 13 (by omega) (by omega) (by omega) (by omega) (by omega) (by omega)]; simp (disch := omega) only [up_eq, up_ne]
  have f14 : f 14 = nI 0 := by rw [fr 14 (by omega) (by omega) (by omega) (by omega) (by omega) (by omega)]; simp (disch := omega) only [up_eq]
  obtain ⟨F5, A5, o1, o2, o3⟩ := l_text7 (Lx := Lx) (J := J) (b := b) (t := t) (t + 1) 0 0 c0 0 (fun _ => 0) (up F 56 f) (up A 60 a) (by omega) h.1 (by rw [up_eq]; exact rt) (fun _ => ⟨⟨h.1, by rw [up_eq]; exact f5, by rw [up_ne _ _ (by omega)]; exact h.2.2⟩, ⟨by rw [up_eq]; exact d4 120 (by omega), by rw [up_eq]; exact d3, fun i hi => absurd hi (Nat.not_lt_zero i), fun i hi => absurd hi (Nat.not_lt_zero i)⟩, by rw [up_eq]; exact d2, fun s _ hs => by rw [up_eq]; exact d4 s (by omega), by rw [up_eq]; exact f13, by rw [up_eq]; exact f14, fun i hi => absurd hi (Nat.not_lt_zero i)⟩) ⟨by omega, Nat.zero_le 6, by omega, fun i hi => absurd hi (Nat.not_lt_zero i), fun i hi => absurd hi (Nat.not_lt_zero i)⟩ ⟨Nat.le_refl 0, fun i hi => absurd hi (Nat.not_lt_zero i), fun i j _ hi => absurd hi (Nat.not_lt_zero j), fun i hi => absurd hi (Nat.not_lt_zero i)⟩
  refine ⟨F5, A5, o1, ⟨fun q hq => by rw [o2.1 q hq, up_ne _ _ hq], fun q hq => by rw [o2.2.1 q hq, up_eq, fr q (by omega) (by omega) (by omega) (by omega) (by omega) (by omega)]; simp (disch := omega) only [up_ne], fun q a1 a2 => by rw [o2.2.2 q a1 a2, up_ne _ _ a1]⟩, fun X hX => ?_⟩
  have e := o3 X hX
  obtain ⟨r0, r1, r2, r5, r6, r7, r10, r11, r12, r15, r16, r17, r20, r21, r24, r25, -⟩ := SX7_text_0
  simp (disch := omega) only [CX7_text, r0, r1, r2, r5, r6, r7, r10, r11, r12, r15, r16, r17, r20, r21, r24, r25, G56, O56, P56, up_eq, up_up, d1, q1, e, Option.bind_some, Option.bind_none, if_true, if_false, zr0, zr1, one11, one01, one0, one1, Option.toList_some, Option.toList_none, List.cons_append, List.nil_append, Nat.reduceEqDiff, Nat.reduceAdd, not_false_eq_true, not_true_eq_false, and_true, true_and, and_false, false_and, or_true, true_or, or_false, false_or, and_self, or_self, Bool.false_eq_true]
theorem op_text (h : Iv Lx xs σ) : okI Lx xs mX6_text mX7_text [] σ := by
  obtain ⟨F, A, J, rfl, hx, hI⟩ := h
  obtain ⟨hT, hP, ⟨hI0, hI1⟩, hR, ⟨hS0, hS1, hS2, hS3⟩, hf, hto⟩ := id hI
  obtain ⟨t, ht, h1, h2, h3⟩ := id hT
  have hb : ∀ k, k < t → (A 10 k).toNatClampNeg ≤ 127 ∧ A 10 k = nI (A 10 k).toNatClampNeg ∧ A 61 k = nI (A 10 k).toNatClampNeg := fun k hk => by
    obtain ⟨x, x7, e1, e2⟩ := h3 k hk
    rw [e1, e2, nI_clamp (by omega)]
    exact ⟨x7, rfl, rfl⟩
  have hX : tpX F A (fun k => (A 10 k).toNatClampNeg) t := ⟨ht, h1, fun k hk => ⟨(hb k hk).1, (hb k hk).2.1⟩⟩
  obtain ⟨F1, A1, k1, k2, k3, k4, k5⟩ := c_takeAll (Lx := Lx) (J := J) hX
  have e56 : F1 56 = F 56 := k4 56 (by omega) (by omega)
  have e61 : A1 61 = A 61 := k5 61 (by omega) (by omega)
  by_cases hR : (prs (fun k => (A 10 k).toNatClampNeg) t (t + 1) 0 0 c0 0 (fun _ => 0)).1 = false
  · obtain ⟨c8, c9⟩ := k3 hR
    rw [hR, zIf] at k1
    obtain ⟨F5, A5, ⟨-, o1⟩, o2, o3⟩ := c_rdAll (Lx := Lx) (J := J) (F := up F1 1 (up (F1 1) 3 (nI 0))) (A := A1) (b := fun k => (A 10 k).toNatClampNeg) (t := t) ⟨ht, by rw [up_ne _ _ (by omega), e56]; exact h2, fun k hk => by rw [e61]; exact ⟨(hb k hk).1, (hb k hk).2.2⟩⟩
    obtain ⟨p0, p9, p10, p11, -⟩ := o1 hR
    obtain ⟨fr1, fr2, fr3⟩ := o2
    refine ⟨(-10) - nI (prs (fun k => (A 10 k).toNatClampNeg) t (t + 1) 0 0 c0 0 (fun _ => 0)).2.2.1, mk Lx (up F1 1 (up (F1 1) 3 (nI 0))) A1 J, mk Lx (up F5 56 (up (F5 56) 5 (nI 0))) A5 J, ?_, o3 _ ?_, _, _, _, rfl, ?_, ?_⟩
    · simp (disch := omega) only [CX6_text, SX6_text, G0, G1, O1, P1, k1, up_eq, up_ne, c9, Option.bind_some, Option.bind_none, if_true, if_false, zr0, zr1, one11, one01, one0, one1, Option.toList_some, Option.toList_none, List.cons_append, List.nil_append, Nat.reduceEqDiff, Nat.reduceAdd, not_false_eq_true, not_true_eq_false, and_true, true_and, and_false, false_and, or_true, true_or, or_false, false_or, and_self, or_self, Bool.false_eq_true]
    · simp (disch := omega) only [SX7_text_0, SX7_text_1, G56, P56, up_eq, up_ne, p10, p11, nI_g0, p0, Option.bind_some, Option.bind_none, if_true, if_false, zr0, zr1, one11, one01, one0, one1, Option.toList_some, Option.toList_none, List.cons_append, List.nil_append, Nat.reduceEqDiff, Nat.reduceAdd, not_false_eq_true, not_true_eq_false, and_true, true_and, and_false, false_and, or_true, true_or, or_false, false_or, and_self, or_self, Bool.false_eq_true]
    · rw [fr3 75 (by omega) (by omega), k5 75 (by omega) (by omega)]; exact hx
    · have g56 : ∀ q, 14 < q → up F5 56 (up (F5 56) 5 (nI 0)) 56 q = F 56 q := fun q hq => by rw [up_eq, up_ne _ _ (by omega), fr2 q (by omega), up_ne _ _ (by omega), e56]
      refine hI.frX (fun p a1 a2 a3 => ?_) ?_ ?_ ?_ (g56 20 (by omega)) (g56 21 (by omega)) (g56 32 (by omega)) (fun q b1 b2 b3 b4 => ?_)
      · rw [up_ne _ _ a3, fr1 p a3, up_ne _ _ a1, k4 p a1 a2]
      · rw [up_ne _ _ (by omega), fr1 1 (by omega), up_eq, up_eq]
      · rw [up_eq, up_eq]
      · rw [up_ne _ _ (by omega), fr1 1 (by omega), up_eq, up_ne _ _ (by omega), up_eq, up_ne _ _ (by omega), c8, p10]
      · rw [fr3 q b3 b4, k5 q b1 b2]
  · have hRt : (prs (fun k => (A 10 k).toNatClampNeg) t (t + 1) 0 0 c0 0 (fun _ => 0)).1 = true := by simpa using hR
    have pv := prs_PV (b := fun k => (A 10 k).toNatClampNeg) (t := t) (ws := fun _ => 2) (ou := 255) (fun _ => Nat.le_refl 2) (t + 1) 0 0 c0 0 (fun _ => 0) (Nat.zero_le t) ⟨by omega, Nat.zero_le 6, by omega, fun i hi => absurd hi (Nat.not_lt_zero i), fun i hi => absurd hi (Nat.not_lt_zero i)⟩ ⟨Nat.le_refl 0, fun i hi => absurd hi (Nat.not_lt_zero i), fun i j _ hi => absurd hi (Nat.not_lt_zero j), fun i hi => absurd hi (Nat.not_lt_zero i)⟩ hRt
    obtain ⟨c8, cX⟩ := k2 hRt
    rw [hRt, zIt] at k1
    obtain ⟨F2, A2, b1, b2, b3, b4⟩ := c_becomeLike (Lx := Lx) (F := up F1 1 (up (F1 1) 3 (nI 0))) (A := A1) (J := J) isP_12 isP_2 (by decide)
    have bX := b4 _ _ _ _ pv.1 pv.2.1 (cX.fr (up_ne _ _ (by omega)) (fun _ _ _ => rfl))
    obtain ⟨F5, A5, ⟨o1, -⟩, o2, o3⟩ := c_rdAll (Lx := Lx) (J := J) (F := up F2 0 (up (F2 0) 8 (nI 0))) (A := up A2 21 (up (up (A2 21) 0 (nI 0)) 1 (nI 0))) (b := fun k => (A 10 k).toNatClampNeg) (t := t) ⟨ht, by rw [up_ne _ _ (by omega), b2 56 (by omega), up_ne _ _ (by omega), e56]; exact h2, fun k hk => by rw [up_ne _ _ (by omega), b3 61 (by omega), e61]; exact ⟨(hb k hk).1, (hb k hk).2.2⟩⟩
    obtain ⟨p10, pM⟩ := o1 hRt
    obtain ⟨fr1, fr2, fr3⟩ := o2
    obtain ⟨a, z, m1, m2, m3, m4⟩ := c_keepDraft (Lx := Lx) (J := J) (F := up F5 56 (up (F5 56) 5 (nI 0))) (A := A5)
    rw [up_eq, up_up] at m1
    have a120 : a 120 = nI (prs (fun k => (A 10 k).toNatClampNeg) t (t + 1) 0 0 c0 0 (fun _ => 0)).2.1 := by rw [m2 120 (by omega)]; exact pM.1
    have z0 : ¬ (0 : Nat) < 0 := by decide
    have i0 : (0 : Nat) < 2 := by decide
    have i1 : (0 : Nat) + 1 < 2 := by decide
    have i2 : ¬ (0 : Nat) + 1 + 1 < 2 := by decide
    refine ⟨nI (prs (fun k => (A 10 k).toNatClampNeg) t (t + 1) 0 0 c0 0 (fun _ => 0)).2.1, mk Lx (up F2 0 (up (F2 0) 8 (nI 0))) (up A2 21 (up (up (A2 21) 0 (nI 0)) 1 (nI 0))) J, mk Lx (up F5 56 (up (up (F5 56) 5 (nI 0)) 20 (nI 0))) (up (up A5 57 a) 59 z) J, ?_, o3 _ ?_, _, _, _, rfl, ?_, ?_⟩
    · simp (disch := omega) only [CX6_text, SX6_text, hX6_text_52, G0, G1, O1, P0, P1, Op isP_12, Gp isP_12, k1, b1, up_eq, up_ne, up_up, nI_ltI, i0, i1, i2, nI_add, Nat.zero_add, w21, narZ0, bX.1, Option.bind_some, Option.bind_none, if_true, if_false, zr0, zr1, one11, one01, one0, one1, Option.toList_some, Option.toList_none, List.cons_append, List.nil_append, Nat.reduceEqDiff, Nat.reduceAdd, not_false_eq_true, not_true_eq_false, and_true, true_and, and_false, false_and, or_true, true_or, or_false, false_or, and_self, or_self, Bool.false_eq_true]
    · simp (disch := omega) only [SX7_text_0, SX7_text_1, G56, O56, P56, leN, up_eq, up_ne, p10, nI_g0, z0, m1, a57, a120, Option.bind_some, Option.bind_none, if_true, if_false, zr0, zr1, one11, one01, one0, one1, Option.toList_some, Option.toList_none, List.cons_append, List.nil_append, Nat.reduceEqDiff, Nat.reduceAdd, not_false_eq_true, not_true_eq_false, and_true, true_and, and_false, false_and, or_true, true_or, or_false, false_or, and_self, or_self, Bool.false_eq_true]
    · rw [up_ne _ _ (by omega), up_ne _ _ (by omega), fr3 75 (by omega) (by omega), up_ne _ _ (by omega), b3 75 (by omega), k5 75 (by omega) (by omega)]; exact hx
    · have fF : ∀ p, p ≠ 56 → up F5 56 (up (up (F5 56) 5 (nI 0)) 20 (nI 0)) p = up F2 0 (up (F2 0) 8 (nI 0)) p := fun p hp => by rw [up_ne _ _ hp, fr1 p hp]
      have fA : ∀ q, q ≠ 57 → q ≠ 59 → q ≠ 60 → q ≠ 62 → up (up A5 57 a) 59 z q = up A2 21 (up (up (A2 21) 0 (nI 0)) 1 (nI 0)) q := fun q a1 a2 a3 a4 => by rw [up_ne _ _ a2, up_ne _ _ a1, fr3 q a3 a4]
      refine hI.frY (fun p a1 a2 a3 a4 a5 => ?_) ?_ ?_ ?_ ?_ ?_ ?_ ?_ ?_ ?_ ?_ ?_ (fun q d1 d2 d3 d4 d5 d6 => ?_) ⟨_, _, _, _, pv, bX.fr ?_ (fun d _ _ => ?_), ?_⟩
      · rw [fF p a5, up_ne _ _ a1, b2 p a4, up_ne _ _ a2, k4 p a2 a3]
      · rw [fF 1 (by omega), up_ne _ _ (by omega), b2 1 (by omega), up_eq, up_eq]
      · simp (disch := omega) only [up_eq, up_ne]
      · rw [fF 1 (by omega), up_ne _ _ (by omega), b2 1 (by omega), up_eq, up_ne _ _ (by omega), c8]
        simp (disch := omega) only [up_eq, up_ne]
        exact p10.symm
      · rw [fF 0 (by omega), up_eq, up_eq]
      · rw [fF 0 (by omega), up_eq, up_ne _ _ (by omega), b2 0 (by omega), up_ne _ _ (by omega), k4 0 (by omega) (by omega)]
      · simp (disch := omega) only [up_eq]
      · rw [up_eq, up_ne _ _ (by omega), up_ne _ _ (by omega), fr2 32 (by omega), up_ne _ _ (by omega), b2 56 (by omega), up_ne _ _ (by omega), e56]
      · rw [fA 21 (by omega) (by omega) (by omega) (by omega)]; simp (disch := omega) only [up_eq, up_ne]
      · rw [fA 21 (by omega) (by omega) (by omega) (by omega)]; simp (disch := omega) only [up_eq]
      · rw [up_eq]; exact m3
      · rw [up_eq]; exact m4
      · rw [fA q d3 d4 d5 d6, up_ne _ _ d2, b3 q (by omega), k5 q (by omega) (by omega)]
      · rw [fF 12 (by omega), up_ne _ _ (by omega)]
      · rw [fA _ (by omega) (by omega) (by omega) (by omega), up_ne _ _ (by omega)]
      · rw [up_ne _ _ (by omega), up_eq]
        exact M0_c pM pv.1 pv.2.1 m2
end TEXTOP
