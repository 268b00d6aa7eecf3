theorem rn_cong {n ou : Nat} {c : Nat → Nat → Nat} {ws : Nat → Nat} {gd : Nat → Bool} (hv : PV n c ws ou) : ∀ k i (v v' : Nat → Int32) (H S : Nat) (dn sp : Int32), i + k = n → (∀ j, j < 8 → v j = v' j) → (∀ j, j < 8 → (rn c gd k i v H S dn sp).1 j = (rn c gd k i v' H S dn sp).1 j) ∧ (rn c gd k i v H S dn sp).2 = (rn c gd k i v' H S dn sp).2 := by
  intro k
  induction k with
  | zero =>
    intro i v v' H S dn sp hi e
    exact ⟨e, rfl⟩
  | succ k ih =>
    intro i v v' H S dn sp hi e
    have hin : i < n := by omega
    have hb := hv.b hin
    have ht := (hv.2.2.2.1 i hin).2.2.1
    rw [rn, rn, e (c i 1) (by omega), e (c i 3) (by omega)]
    by_cases e5 : c i 0 = 5
    · rw [if_pos e5, if_pos e5]
      exact ih (i + 1) v v' _ _ _ _ (by omega) e
    · rw [if_neg e5, if_neg e5]
      rw [if_neg e5] at ht
      by_cases ed : H.testBit (c i 4) = true
      · rw [if_pos ed, if_pos ed]
        by_cases es : c i 0 = 4 ∧ v' (c i 3) = 0
        · rw [if_pos es, if_pos es]
          exact ⟨e, rfl⟩
        · rw [if_neg es, if_neg es]
          refine ih (i + 1) _ _ _ _ _ _ (by omega) (fun j hj => ?_)
          unfold dov
          by_cases k0 : c i 0 = 0
          · rw [if_pos k0, if_pos k0]
            by_cases z : j = c i 1
            · rw [z, up_eq, up_eq]
            · rw [up_ne _ _ z, up_ne _ _ z]; exact e j hj
          · rw [if_neg k0] at ht
            rw [if_neg k0, if_neg k0, e (c i 2) (by omega), e (c i 3) (by omega)]
            by_cases z : j = c i 1
            · rw [z, up_eq, up_eq]
            · rw [up_ne _ _ z, up_ne _ _ z]; exact e j hj
      · rw [if_neg ed, if_neg ed]
        exact ih (i + 1) v v' _ _ _ _ (by omega) e
section RUN12
variable {Lx : Nat} {F A : Nat → Nat → Int32} {J : Nat → Nat → Int64} {Q n ou : Nat} {c : Nat → Nat → Nat} {ws : Nat → Nat}
/-- a whole run from v -/
def rnA (c : Nat → Nat → Nat) (n : Nat) (ws : Nat → Nat) (v : Nat → Int32) : (Nat → Int32) × Int32 × Int32 × Int32 := rn c (gu c n ws) n 0 v 1 0 (nI 0) (nI 0)
theorem c_doAll (hQ : isM Q) (hX : XP F A 12 n c ws ou) (hv : PV n c ws ou) (hm : MZ c n ws A J) {v : Nat → Int32} (he : ∀ j, j < 8 → A (Q + 1) j = v j) : ∃ f w : Nat → Int32, dcall mX2_doAll [.ref Q, .ref 12, .ref 22] (mk Lx F A J) = some (none, mk Lx (up F Q f) (up A (Q + 1) w) J) ∧ (∀ j, j < 8 → w j = (rnA c n ws v).1 j) ∧ f 3 = (rnA c n ws v).2.1 ∧ f 4 = (rnA c n ws v).2.2.1 ∧ f 5 = (rnA c n ws v).2.2.2 := by
  obtain ⟨m1, -, -, m4⟩ := hm
  have q0 : (12 : Nat) ≠ Q := by rcases hQ with rfl | rfl <;> omega
  obtain ⟨f, e1, e2, e3, e4⟩ := l_doAll (Lx := Lx) (J := J) (gd := gu c n ws) hQ hv n 0 (up F Q (up (up (up (up (up (F Q) 3 (nI 0)) 4 (nI 0)) 5 (-4)) 1 (nI 1)) 2 (nI 0))) A 1 0 none none none (by omega) (hX.fr (up_ne _ _ q0) (fun _ _ _ => rfl)) (by simp (disch := omega) only [up_eq, up_ne]) (by simp (disch := omega) only [up_eq, up_ne]) (by simp (disch := omega) only [up_eq, up_ne]) (show 1 < 2 ^ 1 by decide) (show 0 < 2 ^ 1 by decide) m4 (fun i hi h5 => by rw [m1 i hi, fL, if_neg h5, Nat.add_zero])
  simp (disch := omega) only [up_eq, up_ne, up_up, nif] at e1 e2 e3 e4
  obtain ⟨c1, c2⟩ := rn_cong (gd := gu c n ws) hv n 0 (A (Q + 1)) v 1 0 (nI 0) (nI 0) (by omega) he
  refine ⟨f, _, ?_, c1, by rw [e2, c2]; rfl, by rw [e3, c2]; rfl, by rw [e4, c2]; rfl⟩
  simp (disch := omega) only [CX2_doAll, SX2_doAll_0, SX2_doAll_1, SX2_doAll_2, Pm hQ, up_eq, up_up, e1, Option.bind_some, Option.bind_none, if_true, if_false, zr0, zr1, one11, one01, one0, one1, Option.toList_some, Option.toList_none, List.cons_append, List.nil_append, Nat.reduceEqDiff, Nat.reduceAdd, not_false_eq_true, not_true_eq_false, and_true, true_and, and_false, false_and, or_true, true_or, or_false, false_or, and_self, or_self, Bool.false_eq_true]
theorem c_runs1 (hM : M0 (A 57) n c ws ou) (hv : PV n c ws ou) {v : Nat → Int32} (he : ∀ j, j < 8 → A 66 j = v j) : ∃ F' A' J', dcall mX7_runs1 [.ref 56] (mk Lx F A J) = some (none, mk Lx F' A' J') ∧ (∀ j, j < 8 → A' 66 j = (rnA c n ws v).1 j) ∧ F' 56 24 = (rnA c n ws v).2.1 ∧ F' 56 25 = (rnA c n ws v).2.2.1 ∧ F' 56 26 = (rnA c n ws v).2.2.2 ∧ (∀ q, q ≠ 63 → q ≠ 65 → q ≠ 66 → q ≠ 68 → q ≠ 69 → A' q = A q) ∧ (∀ p, p ≠ 56 → F' p = F p) ∧ ∀ q, q ≠ 24 → q ≠ 25 → q ≠ 26 → F' 56 q = F 56 q := by
  obtain ⟨A1, J1, g1, g2, g3, g4, g5⟩ := c_findMeans (Lx := Lx) (F := F) (J := J) hM hv
  have hM1 : M0 (A1 57) n c ws ou := by rw [g4 57 (by omega) (by omega)]; exact hM
  obtain ⟨F', A', e1, e2, e3, e4, e5, e6, e7, e8⟩ := l_runs1 (Lx := Lx) (J := J1) (gd := gu c n ws) hv n 0 (up F 56 (up (up (up (F 56) 24 (nI 0)) 25 (nI 0)) 26 (-4))) (up A1 68 (up (A1 68) 0 (nI 1))) 1 0 none none none (by omega) (by simp (disch := omega) only [up_ne]; exact hM1) (by simp (disch := omega) only [up_eq, up_ne]) (show 1 < 2 ^ 1 by decide) (show 0 < 2 ^ 1 by decide) (by decide) (fun j hj => absurd hj (Nat.not_lt_zero j)) (fun g hg => by
    have : g = 0 := by simpa [nif] using hg
    subst this
    rw [up_eq, up_eq]
    rfl) (fun j hj => absurd hj (Nat.not_lt_zero j)) (by simp (disch := omega) only [up_ne]; exact g2)
  simp (disch := omega) only [up_eq, up_ne, nif] at e1
  simp (disch := omega) only [up_eq, up_ne, g4] at e2 e3 e4 e5
  obtain ⟨c1, c2⟩ := rn_cong (gd := gu c n ws) hv n 0 (A 66) v 1 0 (nI 0) (nI 0) (by omega) he
  refine ⟨F', A', J1, ?_, fun j hj => by rw [e2]; exact c1 j hj, by rw [e3, c2]; rfl, by rw [e4, c2]; rfl, by rw [e5, c2]; rfl, fun q a1 a2 a3 a4 a5 => by rw [e6 q a3 a4 a5, up_ne _ _ a4, g4 q a1 a2], fun p hp => by rw [e7 p hp, up_ne _ _ hp], fun q a1 a2 a3 => by rw [e8 q a1 a2 a3, up_eq, up_ne _ _ a3, up_ne _ _ a2, up_ne _ _ a1]⟩
  simp (disch := omega) only [CX7_runs1, SX7_runs1_0, SX7_runs1_1, SX7_runs1_2, G56, O56, P56, g1, w68, narZ1, up_eq, up_ne, up_up, e1, Option.bind_some, Option.bind_none, if_true, if_false, zr0, zr1, one11, one01, one0, one1, Option.toList_some, Option.toList_none, List.cons_append, List.nil_append, Nat.reduceEqDiff, Nat.reduceAdd, not_false_eq_true, not_true_eq_false, and_true, true_and, and_false, false_and, or_true, true_or, or_false, false_or, and_self, or_self, Bool.false_eq_true]
theorem Inv.frR {F' A' : Nat → Nat → Int32} (h : Inv F A) (hF : ∀ p, p ≠ 0 → p ≠ 27 → p ≠ 29 → p ≠ 56 → F' p = F p) (h9 : F' 0 9 = F 0 9) (h5 : F' 56 5 = F 56 5) (h10 : F' 56 10 = F 56 10) (h32 : F' 56 32 = F 56 32) (hA : ∀ q, q ≠ 23 → q ≠ 24 → q ≠ 26 → q ≠ 28 → q ≠ 30 → q ≠ 63 → q ≠ 65 → q ≠ 66 → q ≠ 67 → q ≠ 68 → q ≠ 69 → A' q = A q) (hR : iR F' A') : Inv F' A' := by
  obtain ⟨hT, hP, ⟨hI0, hI1⟩, -, ⟨hS0, hS1, hS2, hS3⟩, hf, hto⟩ := h
  refine ⟨hT.fr (by rw [hF] <;> omega) h5 (by apply hA <;> omega) (by apply hA <;> omega), hP.fr (by apply hF <;> omega) (fun d _ _ => by apply hA <;> omega) (by apply hA <;> omega), ⟨hI0.fr (by apply hF <;> omega) (fun d _ _ => by apply hA <;> omega) (by rw [hA] <;> omega) (by rw [hA] <;> omega) (fun t _ => by rw [hA] <;> omega), hI1.fr (by apply hF <;> omega) (fun d _ _ => by apply hA <;> omega) (by rw [hA] <;> omega) (by rw [hA] <;> omega) (fun t _ => by rw [hA] <;> omega)⟩, hR, ⟨hS0.fr (by apply hF <;> omega) (by apply hA <;> omega) (by rw [hA] <;> omega) (by rw [hA] <;> omega) (fun t _ => by rw [hA] <;> omega), hS1.fr (by apply hF <;> omega) (by apply hA <;> omega) (by rw [hA] <;> omega) (by rw [hA] <;> omega) (fun t _ => by rw [hA] <;> omega), hS2.fr (by apply hF <;> omega) (by apply hA <;> omega) (by rw [hA] <;> omega) (by rw [hA] <;> omega) (fun t _ => by rw [hA] <;> omega), hS3.fr (by apply hF <;> omega) (by apply hA <;> omega) (by rw [hA] <;> omega) (by rw [hA] <;> omega) (fun t _ => by rw [hA] <;> omega)⟩, ?_, ?_⟩
  · rw [hF 1 (by omega) (by omega) (by omega) (by omega), h10]; exact hf
  · rw [h9, h32]; exact hto
theorem l_run7 (r : Int32) : ∀ k i (A : Nat → Nat → Int32) (l1 l2 l3 : Option Value) (l4 : Int32), i + k = 8 → (r = if F 56 26 = (-4) then F 56 24 else (-10) - F 56 26) → ∃ w, den mX7_run 29 [some (.ref 56), l1, l2, l3, some (.int l4), some (.int (nI i))] [] (mk Lx F A J) = some (some (.int r), mk Lx F (up A 67 w) J) ∧ ∀ j, j < 8 → w j = if i ≤ j then A 66 j else A 67 j := by
  intro k
  induction k with
  | zero =>
    intro i A l1 l2 l3 l4 hi hr
    have hlt : ¬ i < 8 := by omega
    refine ⟨A 67, ?_, fun j hj => by rw [if_neg (by omega)]⟩
    rw [hX7_run_29]
    by_cases z : F 56 26 = (-4)
    · rw [if_pos z] at hr
      simp (disch := omega) only [SX7_run_0, SX7_run_1, G56, nI_ltI, hlt, z, hr, up_id, eq_self_iff_true, Option.bind_some, Option.bind_none, if_true, if_false, zr0, zr1, one11, one01, one0, one1, Option.toList_some, Option.toList_none, List.cons_append, List.nil_append, Nat.reduceEqDiff, Nat.reduceAdd, not_false_eq_true, not_true_eq_false, and_true, true_and, and_false, false_and, or_true, true_or, or_false, false_or, and_self, or_self, Bool.false_eq_true]
    · rw [if_neg z] at hr
      simp (disch := omega) only [SX7_run_0, SX7_run_1, G56, nI_ltI, hlt, z, hr, up_id, Option.bind_some, Option.bind_none, if_true, if_false, zr0, zr1, one11, one01, one0, one1, Option.toList_some, Option.toList_none, List.cons_append, List.nil_append, Nat.reduceEqDiff, Nat.reduceAdd, not_false_eq_true, not_true_eq_false, and_true, true_and, and_false, false_and, or_true, true_or, or_false, false_or, and_self, or_self, Bool.false_eq_true]
  | succ k ih =>
    intro i A l1 l2 l3 l4 hi hr
    have hlt : i < 8 := by omega
    obtain ⟨w, e1, e2⟩ := ih (i + 1) (up A 67 (up (A 67) i (A 66 i))) l1 l2 l3 l4 (by omega) hr
    rw [up_up] at e1
    refine ⟨w, ?_, fun j hj => ?_⟩
    · rw [hX7_run_29]
      simp (disch := omega) only [SX7_run_0, SX7_run_1, G56, leN, nI_ltI, hlt, a66, w67, nI_add, e1, Option.bind_some, Option.bind_none, if_true, if_false, zr0, zr1, one11, one01, one0, one1, Option.toList_some, Option.toList_none, List.cons_append, List.nil_append, Nat.reduceEqDiff, Nat.reduceAdd, not_false_eq_true, not_true_eq_false, and_true, true_and, and_false, false_and, or_true, true_or, or_false, false_or, and_self, or_self, Bool.false_eq_true]
    · rw [e2 j hj, up_eq, up_ne _ _ (by omega : (66 : Nat) ≠ 67)]
      by_cases z : j = i
      · rw [z, if_neg (by omega), up_eq, if_pos (Nat.le_refl i)]
      · rw [up_ne _ _ z]
        by_cases z2 : i ≤ j
        · rw [if_pos (by omega), if_pos z2]
        · rw [if_neg (by omega), if_neg z2]
theorem op_run {σ : dS} {xs : Nat → Int32} (h : Iv Lx xs σ) (a b d e : Int32) : okI Lx xs mX6_run mX7_run [.int a, .int b, .int d, .int e] σ := by
  obtain ⟨F, A, J, rfl, hx, hI⟩ := h
  obtain ⟨hT, hP, ⟨hI0, hI1⟩, hR, ⟨hS0, hS1, hS2, hS3⟩, hf, hto⟩ := id hI
  obtain ⟨n, c, ws, ou, hv, hX, hM⟩ := hP
  have hb := c_begin (Lx := Lx) (F := F) (A := A) (J := J) isM_27 a b d e
  obtain ⟨A1, J1, g1, g2, g3, g4⟩ := c_measured (Lx := Lx) (J := J) (A := up A 28 (st4 a b d e (fun j => if j < 8 then nI 0 else A 28 j))) (hX.fr rfl (fun d _ _ => up_ne _ _ (by omega))) hv
  have v1 : ∀ j, j < 8 → A1 (27 + 1) j = st4 a b d e (fun _ => nI 0) j := fun j hj => by
    rw [g3 (27 + 1) (by omega) (by omega) (by omega), up_eq]
    simp only [st4, up, if_pos hj]
  have hX1 : XP F A1 12 n c ws ou := hX.fr rfl (fun d _ _ => by rw [g3 _ (by omega) (by omega) (by omega), up_ne _ _ (by omega)])
  obtain ⟨f, w, e1, e2, e3, e4, e5⟩ := c_doAll (Lx := Lx) (F := F) isM_27 hX1 hv g2 v1
  have hs := c_starts (Lx := Lx) (F := up (up F 27 f) 0 (up (F 0) 8 (nI 1))) (A := up A1 28 w) (J := J1) a b d e
  have v2 : ∀ j, j < 8 → up (up A1 28 w) 66 (st4 a b d e (fun j => if j < 8 then nI 0 else A1 66 j)) 66 j = st4 a b d e (fun _ => nI 0) j := fun j hj => by
    rw [up_eq]
    simp only [st4, up, if_pos hj]
  obtain ⟨F2, A2, J2, r1, r2, r3, r4, r5, r6, r7, r8⟩ := c_runs1 (Lx := Lx) (F := up (up F 27 f) 0 (up (F 0) 8 (nI 1))) (A := up (up A1 28 w) 66 (st4 a b d e (fun j => if j < 8 then nI 0 else A1 66 j))) (J := J1) (n := n) (c := c) (ws := ws) (ou := ou) (by
    simp (disch := omega) only [up_ne]
    rw [g3 57 (by omega) (by omega) (by omega), up_ne _ _ (by omega : (57 : Nat) ≠ 28)]
    exact hM) hv v2
  obtain ⟨w2, k1, k2⟩ := l_run7 (Lx := Lx) (F := up F2 56 (up (up (F2 56) 20 (nI 1)) 21 (F2 56 25))) (J := J2) (if (rnA c n ws (st4 a b d e (fun _ => nI 0))).2.2.2 = (-4) then (rnA c n ws (st4 a b d e (fun _ => nI 0))).2.1 else (-10) - (rnA c n ws (st4 a b d e (fun _ => nI 0))).2.2.2) 8 0 A2 (some (.int a)) (some (.int b)) (some (.int d)) e (by omega) (by simp (disch := omega) only [up_eq, up_ne, r3, r5])
  simp (disch := omega) only [up_eq, up_ne] at hs
  refine ⟨(if (rnA c n ws (st4 a b d e (fun _ => nI 0))).2.2.2 = (-4) then (rnA c n ws (st4 a b d e (fun _ => nI 0))).2.1 else (-10) - (rnA c n ws (st4 a b d e (fun _ => nI 0))).2.2.2), mk Lx (up (up F 27 f) 0 (up (F 0) 8 (nI 1))) (up A1 28 w) J1, mk Lx (up F2 56 (up (up (F2 56) 20 (nI 1)) 21 (F2 56 25))) (up A2 67 w2) J2, ?_, ?_, _, _, _, rfl, ?_, ?_⟩
  · by_cases z : (rnA c n ws (st4 a b d e (fun _ => nI 0))).2.2.2 = (-4)
    · rw [if_pos z]
      rw [z] at e5
      simp (disch := omega) only [CX6_run, SX6_run, G0, O0, P0, Gm isM_27, Om isM_27, hb, g1, e1, e3, e5, up_eq, up_ne, eq_self_iff_true, Option.bind_some, Option.bind_none, if_true, if_false, zr0, zr1, one11, one01, one0, one1, Option.toList_some, Option.toList_none, List.cons_append, List.nil_append, Nat.reduceEqDiff, Nat.reduceAdd, not_false_eq_true, not_true_eq_false, and_true, true_and, and_false, false_and, or_true, true_or, or_false, false_or, and_self, or_self, Bool.false_eq_true]
    · rw [if_neg z]
      simp (disch := omega) only [CX6_run, SX6_run, G0, O0, P0, Gm isM_27, Om isM_27, hb, g1, e1, e3, e5, z, up_eq, up_ne, eq_self_iff_true, Option.bind_some, Option.bind_none, if_true, if_false, zr0, zr1, one11, one01, one0, one1, Option.toList_some, Option.toList_none, List.cons_append, List.nil_append, Nat.reduceEqDiff, Nat.reduceAdd, not_false_eq_true, not_true_eq_false, and_true, true_and, and_false, false_and, or_true, true_or, or_false, false_or, and_self, or_self, Bool.false_eq_true]
  · simp (disch := omega) only [CX7_run, SX7_run_0, SX7_run_1, G56, O56, P56, hs, r1, up_eq, up_ne, up_up, k1, Option.bind_some, Option.bind_none, if_true, if_false, zr0, zr1, one11, one01, one0, one1, Option.toList_some, Option.toList_none, List.cons_append, List.nil_append, Nat.reduceEqDiff, Nat.reduceAdd, not_false_eq_true, not_true_eq_false, and_true, true_and, and_false, false_and, or_true, true_or, or_false, false_or, and_self, or_self, Bool.false_eq_true]
  · rw [up_ne _ _ (by omega), r6 75 (by omega) (by omega) (by omega) (by omega) (by omega), up_ne _ _ (by omega), up_ne _ _ (by omega), g3 75 (by omega) (by omega) (by omega), up_ne _ _ (by omega)]
    exact hx
  · refine hI.frR (fun p a1 a2 a3 a4 => ?_) ?_ ?_ ?_ ?_ (fun q b1 b2 b3 b4 b5 b6 b7 b8 b9 b10 b11 => ?_) (Or.inr ⟨?_, ?_, ?_, fun v hv => ?_⟩)
    · rw [up_ne _ _ a4, r7 p a4, up_ne _ _ a1, up_ne _ _ a2]
    · rw [up_ne _ _ (by omega), r7 0 (by omega), up_eq, up_ne _ _ (by omega)]
    · simp (disch := omega) only [up_eq, up_ne, r8]
    · simp (disch := omega) only [up_eq, up_ne, r8]
    · simp (disch := omega) only [up_eq, up_ne, r8]
    · rw [up_ne _ _ b9, r6 q b6 b7 b8 b10 b11, up_ne _ _ b8, up_ne _ _ b4, g3 q b1 b2 b3, up_ne _ _ b4]
    · rw [up_ne _ _ (by omega), r7 0 (by omega), up_eq, up_eq]
    · simp (disch := omega) only [up_eq, up_ne]
    · simp (disch := omega) only [up_eq, up_ne, r7, r4, e4]
    · rw [up_ne _ _ (by omega), r6 28 (by omega) (by omega) (by omega) (by omega) (by omega), up_ne _ _ (by omega), up_eq, e2 v hv, up_eq, k2 v hv, if_pos (Nat.zero_le v), r2 v hv]
end RUN12
