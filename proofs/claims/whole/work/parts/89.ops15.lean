section READOP
variable {Lx : Nat} {xs : Nat → Int32} {σ : dS}
theorem Inv.frT {F A : Nat → Nat → Int32} (h : Inv F A) (x : Int32) : Inv (up (up F 0 (up (F 0) 9 x)) 56 (up (F 56) 32 x)) A := by
  obtain ⟨hT, hP, ⟨hI0, hI1⟩, hR, ⟨hS0, hS1, hS2, hS3⟩, hf, hto⟩ := h
  exact ⟨(hT.fr (by simp (disch := omega) only [up_eq, up_ne]) (by simp (disch := omega) only [up_eq, up_ne]) (by simp (disch := omega) only [up_eq, up_ne]) (by simp (disch := omega) only [up_eq, up_ne])), (hP.fr (by simp (disch := omega) only [up_eq, up_ne]) (fun d _ _ => by simp (disch := omega) only [up_eq, up_ne]) (by simp (disch := omega) only [up_eq, up_ne])), ⟨(hI0.fr (by simp (disch := omega) only [up_eq, up_ne]) (fun d _ _ => by simp (disch := omega) only [up_eq, up_ne]) (by simp (disch := omega) only [up_eq, up_ne]) (by simp (disch := omega) only [up_eq, up_ne]) (fun t _ => by simp (disch := omega) only [up_eq, up_ne])), (hI1.fr (by simp (disch := omega) only [up_eq, up_ne]) (fun d _ _ => by simp (disch := omega) only [up_eq, up_ne]) (by simp (disch := omega) only [up_eq, up_ne]) (by simp (disch := omega) only [up_eq, up_ne]) (fun t _ => by simp (disch := omega) only [up_eq, up_ne]))⟩, (hR.fr (by simp (disch := omega) only [up_eq, up_ne]) (by simp (disch := omega) only [up_eq, up_ne]) (by simp (disch := omega) only [up_eq, up_ne]) (by simp (disch := omega) only [up_eq, up_ne]) (by simp (disch := omega) only [up_eq, up_ne]) (by simp (disch := omega) only [up_eq, up_ne])), ⟨(hS0.fr (by simp (disch := omega) only [up_eq, up_ne]) (by simp (disch := omega) only [up_eq, up_ne]) (by simp (disch := omega) only [up_eq, up_ne]) (by simp (disch := omega) only [up_eq, up_ne]) (fun t _ => by simp (disch := omega) only [up_eq, up_ne])), (hS1.fr (by simp (disch := omega) only [up_eq, up_ne]) (by simp (disch := omega) only [up_eq, up_ne]) (by simp (disch := omega) only [up_eq, up_ne]) (by simp (disch := omega) only [up_eq, up_ne]) (fun t _ => by simp (disch := omega) only [up_eq, up_ne])), (hS2.fr (by simp (disch := omega) only [up_eq, up_ne]) (by simp (disch := omega) only [up_eq, up_ne]) (by simp (disch := omega) only [up_eq, up_ne]) (by simp (disch := omega) only [up_eq, up_ne]) (fun t _ => by simp (disch := omega) only [up_eq, up_ne])), (hS3.fr (by simp (disch := omega) only [up_eq, up_ne]) (by simp (disch := omega) only [up_eq, up_ne]) (by simp (disch := omega) only [up_eq, up_ne]) (by simp (disch := omega) only [up_eq, up_ne]) (fun t _ => by simp (disch := omega) only [up_eq, up_ne]))⟩, (by simp (disch := omega) only [up_eq, up_ne]; exact hf), (by simp (disch := omega) only [up_eq, up_ne])⟩
/-- nothing is read: a fault at once, or nothing to read -/
theorem c_rdE {F A : Nat → Nat → Int32} {J : Nat → Nat → Int64} {k ln nn e : Nat} (f : Int32) (hk : k < 4) (hl : ln ≤ 2) (hnn : nn ≤ 13) (he3 : 0 < e ∧ e ≤ 3) (he : (F (48 + 2 * k) 2 = (-4) ∧ e = 1) ∨ (¬ F (48 + 2 * k) 2 = (-4) ∧ ¬ nI ln = F (48 + 2 * k) 1 ∧ e = 3) ∨ (¬ F (48 + 2 * k) 2 = (-4) ∧ nI ln = F (48 + 2 * k) 1 ∧ f < 0 ∧ e = 2)) (he2 : (A 71 k = (-4) ∧ e = 1) ∨ (¬ A 71 k = (-4) ∧ ¬ A 71 k = nI ln ∧ e = 3) ∨ (¬ A 71 k = (-4) ∧ A 71 k = nI ln ∧ f < 0 ∧ e = 2)) : ∃ g, dcall mX6_read [.ref 0, .int (nI k), .int (nI ln), .int f, .int (nI nn)] (mk Lx F A J) = some (some (.int (nI 0)), mk Lx (up F 0 (up (F 0) 9 (nI (if nn = 0 then 0 else e)))) A J) ∧ dcall mX7_read [.ref 56, .int (nI k), .int (nI ln), .int f, .int (nI nn)] (mk Lx (up F 0 (up (F 0) 9 (nI (if nn = 0 then 0 else e)))) A J) = some (some (.int (nI 0)), mk Lx (up (up F 0 (up (F 0) 9 (nI (if nn = 0 then 0 else e)))) 56 (up (F 56) 32 (nI (if nn = 0 then 0 else e)))) (up A 74 g) J) := by
  have k8 : ¬ nI k < 0 := nI_pos (by omega)
  have l8 : ¬ nI ln < 0 := nI_pos (by omega)
  have k9 : nI k ≤ nI 3 := nI_le (by omega) (by omega)
  have l9 : nI ln ≤ nI 2 := nI_le (by omega) (by omega)
  have m9 : nI nn ≤ nI 13 := nI_le (by omega) (by omega)
  have m8 : nI 0 ≤ nI nn := nI_le (by omega) (by omega)
  have l7 : ¬ 2 < ln := by omega
  have m7 : ¬ 13 < nn := by omega
  obtain ⟨g, -, g2⟩ := l_bf (Lx := Lx) (F := up F 0 (up (F 0) 9 (nI (if nn = 0 then 0 else e)))) (J := J) (some (.int (nI k))) (some (.int (nI ln))) (some (.int f)) (nI nn) none none none 128 0 A none none (by omega)
  refine ⟨g, ?_, ?_⟩
  · by_cases z : nn = 0
    · have h0 : ¬ (0 : Nat) < 0 := by decide
      rw [if_pos z, z]
      simp (disch := omega) only [CX6_read, SX6_read_0, SX6_read_1, SX6_read_2, G0, P0, r31, k8, l8, nI_ltI, hk, l7, nI_l0, hX6_read_49, hX6_read_140, h0, Nat.not_lt_zero, Option.bind_some, Option.bind_none, if_true, if_false, zr0, zr1, one11, one01, one0, one1, Option.toList_some, Option.toList_none, List.cons_append, List.nil_append, Nat.reduceEqDiff, Nat.reduceAdd, not_false_eq_true, not_true_eq_false, and_true, true_and, and_false, false_and, or_true, true_or, or_false, false_or, and_self, or_self, Bool.false_eq_true]
    · have z2 : 0 < nn := by omega
      have e0 : ¬ e = 0 := by omega
      have cf := c_faultE (Lx := Lx) (F := F) (A := A) (J := J) (sh_k hk) (nI ln) (f + nI (3 * 0)) e (by
        rcases he with h | h | ⟨h1, h2, h3, h4⟩
        · exact Or.inl h
        · exact Or.inr (Or.inl h)
        · refine Or.inr (Or.inr ⟨h1, h2, ?_, h4⟩)
          rw [Nat.mul_zero, ad0]
          exact h3)
      rw [if_neg z]
      by_cases z1 : 0 + 1 < nn
      · simp (disch := omega) only [CX6_read, SX6_read_0, SX6_read_1, SX6_read_2, G0, P0, r31, k8, l8, nI_ltI, hk, l7, m7, nI_l0, hX6_read_49, hX6_read_140, z2, z1, Os (sh_k hk), nI_m, nI_add, cf, nI_e0, e0, Nat.lt_irrefl, Option.bind_some, Option.bind_none, if_true, if_false, zr0, zr1, one11, one01, one0, one1, Option.toList_some, Option.toList_none, List.cons_append, List.nil_append, Nat.reduceEqDiff, Nat.reduceAdd, not_false_eq_true, not_true_eq_false, and_true, true_and, and_false, false_and, or_true, true_or, or_false, false_or, and_self, or_self, Bool.false_eq_true]
      · simp (disch := omega) only [CX6_read, SX6_read_0, SX6_read_1, SX6_read_2, G0, P0, r31, k8, l8, nI_ltI, hk, l7, m7, nI_l0, hX6_read_49, hX6_read_140, z2, z1, Os (sh_k hk), nI_m, nI_add, cf, nI_e0, e0, Nat.lt_irrefl, Option.bind_some, Option.bind_none, if_true, if_false, zr0, zr1, one11, one01, one0, one1, Option.toList_some, Option.toList_none, List.cons_append, List.nil_append, Nat.reduceEqDiff, Nat.reduceAdd, not_false_eq_true, not_true_eq_false, and_true, true_and, and_false, false_and, or_true, true_or, or_false, false_or, and_self, or_self, Bool.false_eq_true]
  · have en := g2 (some (some (.int (nI 0)), mk Lx (up (up F 0 (up (F 0) 9 (nI (if nn = 0 then 0 else e)))) 56 (up (F 56) 32 (nI (if nn = 0 then 0 else e)))) (up A 74 g) J)) (by
      by_cases z : nn = 0
      · rw [if_pos z, hX7_read_63, z]
        have h0 : ¬ (0 : Nat) < 0 := by decide
        simp (disch := omega) only [SX7_read_0, SX7_read_3, P56, nI_ltI, h0, up_ne, Option.bind_some, Option.bind_none, if_true, if_false, zr0, zr1, one11, one01, one0, one1, Option.toList_some, Option.toList_none, List.cons_append, List.nil_append, Nat.reduceEqDiff, Nat.reduceAdd, not_false_eq_true, not_true_eq_false, and_true, true_and, and_false, false_and, or_true, true_or, or_false, false_or, and_self, or_self, Bool.false_eq_true]
      · have z2 : 0 < nn := by omega
        have h71 : up A 74 g 71 = A 71 := up_ne _ _ (by omega)
        obtain ⟨l9', t1⟩ := t_cE (Lx := Lx) (F := up F 0 (up (F 0) 9 (nI (if nn = 0 then 0 else e)))) (A := up A 74 g) (J := J) hk (nI ln) f (e := e) (by rw [h71]; exact he2) (nI nn) (nI 0) none none
        have t2 := t_end (Lx := Lx) (F := up F 0 (up (F 0) 9 (nI (if nn = 0 then 0 else e)))) (A := up A 74 g) (J := J) (e := e) (w := 0) (i := 0) (nn := nn) (cc := 1) he3.1 he3.2 (by omega) hnn (by omega) (some (.int (nI k))) (some (.int (nI ln))) (some (.int f)) l9' none
        have t3 := t1 _ t2
        rw [hX7_read_63]
        rw [if_neg z] at t3 ⊢
        rw [up_ne _ _ (by omega : (56 : Nat) ≠ 0)] at t3
        simp (disch := omega) only [SX7_read_0, nI_ltI, z2, t3, Option.bind_some, Option.bind_none, if_true, if_false, zr0, zr1, one11, one01, one0, one1, Option.toList_some, Option.toList_none, List.cons_append, List.nil_append, Nat.reduceEqDiff, Nat.reduceAdd, not_false_eq_true, not_true_eq_false, and_true, true_and, and_false, false_and, or_true, true_or, or_false, false_or, and_self, or_self, Bool.false_eq_true])
    simp (disch := omega) only [CX7_read, SX7_read_0, c_isSheet, bI_0, k8, k9, l8, l9, c_in, w64N, w64le, m8, m9, en, Option.bind_some, Option.bind_none, if_true, if_false, zr0, zr1, one11, one01, one0, one1, Option.toList_some, Option.toList_none, List.cons_append, List.nil_append, Nat.reduceEqDiff, Nat.reduceAdd, not_false_eq_true, not_true_eq_false, and_true, true_and, and_false, false_and, or_true, true_or, or_false, false_or, and_self, or_self, Bool.false_eq_true]
theorem op_read (h : Iv Lx xs σ) (a l f m : Int32) : okI Lx xs mX6_read mX7_read [.int a, .int l, .int f, .int m] σ := by
  obtain ⟨F, A, J, rfl, hx, hI⟩ := h
  obtain ⟨hT, hP, ⟨hI0, hI1⟩, hR, ⟨hS0, hS1, hS2, hS3⟩, hf, hto⟩ := id hI
  obtain ⟨n, c, ws, ou, hv, hX, hM⟩ := id hP
  have hn := hv.1
  rcases iin a 4 (by omega) with ⟨k, hk, rfl⟩ | ga
  · have k8 : ¬ nI k < 0 := nI_pos (by omega)
    have k9 : nI k ≤ nI 3 := nI_le (by omega) (by omega)
    rcases iin l 3 (by omega) with ⟨ln, hl3, rfl⟩ | gl
    · have l8 : ¬ nI ln < 0 := nI_pos (by omega)
      have l9 : nI ln ≤ nI 2 := nI_le (by omega) (by omega)
      have l7 : ¬ 2 < ln := by omega
      have hl : ln ≤ 2 := by omega
      rcases iin m 14 (by omega) with ⟨nn, hn14, rfl⟩ | gm
      · have hnn : nn ≤ 13 := by omega
        have m9 : nI nn ≤ nI 13 := nI_le (by omega) (by omega)
        have m8 : nI 0 ≤ nI nn := nI_le (by omega) (by omega)
        have m7 : ¬ 13 < nn := by omega
        have hkS : iS F A k := by
          obtain rfl | rfl | rfl | rfl : k = 0 ∨ k = 1 ∨ k = 2 ∨ k = 3 := by omega
          · exact hS0
          · exact hS1
          · exact hS2
          · exact hS3
        have fE : ∀ e : Nat, 0 < e ∧ e ≤ 3 → ((F (48 + 2 * k) 2 = (-4) ∧ e = 1) ∨ (¬ F (48 + 2 * k) 2 = (-4) ∧ ¬ nI ln = F (48 + 2 * k) 1 ∧ e = 3) ∨ (¬ F (48 + 2 * k) 2 = (-4) ∧ nI ln = F (48 + 2 * k) 1 ∧ f < 0 ∧ e = 2)) → ((A 71 k = (-4) ∧ e = 1) ∨ (¬ A 71 k = (-4) ∧ ¬ A 71 k = nI ln ∧ e = 3) ∨ (¬ A 71 k = (-4) ∧ A 71 k = nI ln ∧ f < 0 ∧ e = 2)) → okI Lx xs mX6_read mX7_read [.int (nI k), .int (nI ln), .int f, .int (nI nn)] (mk Lx F A J) := fun e q1 q2 q3 => by
          obtain ⟨g, c1, c2⟩ := c_rdE (Lx := Lx) (J := J) (nn := nn) f hk hl hnn q1 q2 q3
          refine ⟨nI 0, _, _, c1, c2, _, _, _, rfl, ?_, ?_⟩
          · rw [up_ne _ _ (by omega)]; exact hx
          · exact (hI.frP (F' := F) (A' := up A 74 g) (fun _ _ => rfl) (fun q _ _ _ q4 => up_ne _ _ q4) (hP.fr rfl (fun d _ _ => up_ne _ _ (by omega)) (up_ne _ _ (by omega)))).frT _
        rcases hkS with ⟨s1, s2⟩ | ⟨ln', sz, s1, s2, s3, s4, s5, s6, s7⟩
        · exact fE 1 (by omega) (Or.inl ⟨s1, rfl⟩) (Or.inl ⟨s2, rfl⟩)
        · have n4 : ¬ F (48 + 2 * k) 2 = (-4) := by rw [s4]; exact nI_m4 (by omega)
          have n4l : ¬ A 71 k = (-4) := by rw [s5]; exact nI_m4 (by omega)
          by_cases el : ln = ln'
          · subst el
            rcases i32 f with f0 | ⟨fn, hf, rfl⟩
            · exact fE 2 (by omega) (Or.inr (Or.inr ⟨n4, s3.symm, f0, rfl⟩)) (Or.inr (Or.inr ⟨n4l, s5, f0, rfl⟩))
            · have hq1 : 48 + 2 * k + 1 = 49 + 2 * k := by omega
              obtain ⟨r1, r2⟩ := l_rd1 (Lx := Lx) (J := J) hX hv (fn := fn) (nn := nn) (k := k) (sh_k hk) s3 s4 s2 hnn hk nn 0 none (by omega) (by omega)
              rw [hq1] at r1 r2
              have scl := sc_le (fun m => decide (fn + 3 * m + 3 ≤ sz)) (fun m => mayB n c (A (49 + 2 * k) (fn + 3 * m)) (A (49 + 2 * k) (fn + 3 * m + 1)) (A (49 + 2 * k) (fn + 3 * m + 2))) nn 0
              obtain ⟨g0, g1, g2⟩ := l_bf (Lx := Lx) (J := J) (F := F) (some (.int (nI k))) (some (.int (nI ln))) (some (.int (nI fn))) (nI nn) none none none 128 0 A none none (by omega)
              cases hsc : (sc (fun m => decide (fn + 3 * m + 3 ≤ sz)) (fun m => mayB n c (A (49 + 2 * k) (fn + 3 * m)) (A (49 + 2 * k) (fn + 3 * m + 1)) (A (49 + 2 * k) (fn + 3 * m + 2))) nn 0).1 with
              | true =>
                have e1 := r1 hsc
                obtain ⟨t1, -⟩ := l_rd7 (Lx := Lx) (F := F) (J := J) (n := n) (c := c) (ws := ws) (ou := ou) (k := k) (ln := ln) (sz := sz) (fn := fn) (nn := nn) hk hl s2 hnn hf (A (49 + 2 * k)) nn 0 (up A 74 g0) none none none (by omega) (by omega) (by rw [up_ne _ _ (by omega)]; exact s5) (by rw [up_ne _ _ (by omega)]; exact s6) (by rw [up_ne _ _ (by omega)]; exact fun x hx => (s7 x hx).symm) (by rw [up_ne _ _ (by omega)]; exact hM) hv
                obtain ⟨g, q1, q2⟩ := t1 hsc
                have q3 := g2 _ q2
                refine ⟨(-20) - nI (sc (fun m => decide (fn + 3 * m + 3 ≤ sz)) (fun m => mayB n c (A (49 + 2 * k) (fn + 3 * m)) (A (49 + 2 * k) (fn + 3 * m + 1)) (A (49 + 2 * k) (fn + 3 * m + 2))) nn 0).2.1, mk Lx F A J, mk Lx F (up (up A 74 g0) 57 g) J, ?_, ?_, _, _, _, rfl, ?_, ?_⟩
                · simp (disch := omega) only [CX6_read, SX6_read_0, SX6_read_1, SX6_read_2, G0, r31, k8, l8, nI_ltI, hk, l7, m7, nI_l0, e1, Option.bind_some, Option.bind_none, if_true, if_false, zr0, zr1, one11, one01, one0, one1, Option.toList_some, Option.toList_none, List.cons_append, List.nil_append, Nat.reduceEqDiff, Nat.reduceAdd, not_false_eq_true, not_true_eq_false, and_true, true_and, and_false, false_and, or_true, true_or, or_false, false_or, and_self, or_self, Bool.false_eq_true]
                · simp (disch := omega) only [CX7_read, SX7_read_0, c_isSheet, bI_0, k8, k9, l8, l9, c_in, w64N, w64le, m8, m9, q3, Option.bind_some, Option.bind_none, if_true, if_false, zr0, zr1, one11, one01, one0, one1, Option.toList_some, Option.toList_none, List.cons_append, List.nil_append, Nat.reduceEqDiff, Nat.reduceAdd, not_false_eq_true, not_true_eq_false, and_true, true_and, and_false, false_and, or_true, true_or, or_false, false_or, and_self, or_self, Bool.false_eq_true]
                · simp (disch := omega) only [up_ne]; exact hx
                · refine hI.frP (fun _ _ => rfl) (fun q _ q2 _ q4 => by rw [up_ne _ _ q2, up_ne _ _ q4]) ⟨n, c, ws, ou, hv, hX.fr rfl (fun d _ _ => by rw [up_ne _ _ (by omega), up_ne _ _ (by omega)]), ?_⟩
                  rw [up_eq]
                  exact M0_c hM hn hv.2.1 (fun s hs => by rw [q1 s hs, up_eq, g1 s hs, if_pos (Nat.zero_le s)])
              | false =>
                obtain ⟨l9', e1⟩ := r2 hsc
                obtain ⟨A1, d1, d2, d3, d4⟩ := l_rd2 (Lx := Lx) (J := J) (F := F) (n := n) (c := c) (ws := ws) (ou := ou) (fn := fn) (nn := nn) (k := k) (W := (sc (fun m => decide (fn + 3 * m + 3 ≤ sz)) (fun m => mayB n c (A (49 + 2 * k) (fn + 3 * m)) (A (49 + 2 * k) (fn + 3 * m + 1)) (A (49 + 2 * k) (fn + 3 * m + 2))) nn 0).2.1) (sh_k hk) (by omega) (some (.int (nI k))) (some (.int (nI ln))) (A (49 + 2 * k)) (fun q hq => by
                  obtain ⟨z1, z2⟩ := scl.2.2.2 q (by omega) hq
                  have := of_decide_eq_true z1
                  exact ⟨by omega, z2⟩) (nI (sc (fun m => decide (fn + 3 * m + 3 ≤ sz)) (fun m => mayB n c (A (49 + 2 * k) (fn + 3 * m)) (A (49 + 2 * k) (fn + 3 * m + 1)) (A (49 + 2 * k) (fn + 3 * m + 2))) nn 0).2.2) (sc (fun m => decide (fn + 3 * m + 3 ≤ sz)) (fun m => mayB n c (A (49 + 2 * k) (fn + 3 * m)) (A (49 + 2 * k) (fn + 3 * m + 1)) (A (49 + 2 * k) (fn + 3 * m + 2))) nn 0).2.1 0 A l9' (by omega) (by rw [hq1]) hX hv
                have e2 := e1 _ d1
                have dA : ∀ q, q ≤ 12 ∨ 19 < q → A1 q = A q := fun q hq => d4 q (fun d _ _ => by omega)
                obtain ⟨g0', g1', g2'⟩ := l_bf (Lx := Lx) (J := J) (F := up F 0 (up (F 0) 9 (nI (sc (fun m => decide (fn + 3 * m + 3 ≤ sz)) (fun m => mayB n c (A (49 + 2 * k) (fn + 3 * m)) (A (49 + 2 * k) (fn + 3 * m + 1)) (A (49 + 2 * k) (fn + 3 * m + 2))) nn 0).2.2))) (some (.int (nI k))) (some (.int (nI ln))) (some (.int (nI fn))) (nI nn) none none none 128 0 A1 none none (by omega)
                obtain ⟨-, t2⟩ := l_rd7 (Lx := Lx) (F := up F 0 (up (F 0) 9 (nI (sc (fun m => decide (fn + 3 * m + 3 ≤ sz)) (fun m => mayB n c (A (49 + 2 * k) (fn + 3 * m)) (A (49 + 2 * k) (fn + 3 * m + 1)) (A (49 + 2 * k) (fn + 3 * m + 2))) nn 0).2.2))) (J := J) (n := n) (c := c) (ws := ws) (ou := ou) (k := k) (ln := ln) (sz := sz) (fn := fn) (nn := nn) hk hl s2 hnn hf (A (49 + 2 * k)) nn 0 (up A1 74 g0') none none none (by omega) (by omega) (by rw [up_ne _ _ (by omega), dA 71 (by omega)]; exact s5) (by rw [up_ne _ _ (by omega), dA 72 (by omega)]; exact s6) (by rw [up_ne _ _ (by omega), dA 73 (by omega)]; exact fun x hx => (s7 x hx).symm) (by rw [up_ne _ _ (by omega), dA 57 (by omega)]; exact hM) hv
                obtain ⟨g, q1, q2⟩ := t2 hsc
                have q3 := g2' _ q2
                rw [up_ne _ _ (by omega : (56 : Nat) ≠ 0)] at q3
                refine ⟨nI (sc (fun m => decide (fn + 3 * m + 3 ≤ sz)) (fun m => mayB n c (A (49 + 2 * k) (fn + 3 * m)) (A (49 + 2 * k) (fn + 3 * m + 1)) (A (49 + 2 * k) (fn + 3 * m + 2))) nn 0).2.1, mk Lx (up F 0 (up (F 0) 9 (nI (sc (fun m => decide (fn + 3 * m + 3 ≤ sz)) (fun m => mayB n c (A (49 + 2 * k) (fn + 3 * m)) (A (49 + 2 * k) (fn + 3 * m + 1)) (A (49 + 2 * k) (fn + 3 * m + 2))) nn 0).2.2))) A1 J, mk Lx (up (up F 0 (up (F 0) 9 (nI (sc (fun m => decide (fn + 3 * m + 3 ≤ sz)) (fun m => mayB n c (A (49 + 2 * k) (fn + 3 * m)) (A (49 + 2 * k) (fn + 3 * m + 1)) (A (49 + 2 * k) (fn + 3 * m + 2))) nn 0).2.2))) 56 (up (F 56) 32 (nI (sc (fun m => decide (fn + 3 * m + 3 ≤ sz)) (fun m => mayB n c (A (49 + 2 * k) (fn + 3 * m)) (A (49 + 2 * k) (fn + 3 * m + 1)) (A (49 + 2 * k) (fn + 3 * m + 2))) nn 0).2.2))) (up (up A1 74 g0') 57 g) J, ?_, ?_, _, _, _, rfl, ?_, ?_⟩
                · simp (disch := omega) only [CX6_read, SX6_read_0, SX6_read_1, SX6_read_2, G0, r31, k8, l8, nI_ltI, hk, l7, m7, nI_l0, e2, Option.bind_some, Option.bind_none, if_true, if_false, zr0, zr1, one11, one01, one0, one1, Option.toList_some, Option.toList_none, List.cons_append, List.nil_append, Nat.reduceEqDiff, Nat.reduceAdd, not_false_eq_true, not_true_eq_false, and_true, true_and, and_false, false_and, or_true, true_or, or_false, false_or, and_self, or_self, Bool.false_eq_true]
                · simp (disch := omega) only [CX7_read, SX7_read_0, c_isSheet, bI_0, k8, k9, l8, l9, c_in, w64N, w64le, m8, m9, q3, Option.bind_some, Option.bind_none, if_true, if_false, zr0, zr1, one11, one01, one0, one1, Option.toList_some, Option.toList_none, List.cons_append, List.nil_append, Nat.reduceEqDiff, Nat.reduceAdd, not_false_eq_true, not_true_eq_false, and_true, true_and, and_false, false_and, or_true, true_or, or_false, false_or, and_self, or_self, Bool.false_eq_true]
                · rw [up_ne _ _ (by omega), up_ne _ _ (by omega), dA 75 (by omega)]; exact hx
                · refine (hI.frP (F' := F) (A' := up (up A1 74 g0') 57 g) (fun _ _ => rfl) (fun q q1 q2 _ q4 => by rw [up_ne _ _ q2, up_ne _ _ q4, dA q q1]) ⟨n, _, ws, ou, d3, d2.fr rfl (fun d _ _ => by rw [up_ne _ _ (by omega), up_ne _ _ (by omega)]), ?_⟩).frT _
                  rw [up_eq]
                  exact q1
          · exact fE 3 (by omega) (Or.inr (Or.inl ⟨n4, (by rw [s3]; exact fun z => el ((nI_eq (by omega) (by omega)).mp z)), rfl⟩)) (Or.inr (Or.inl ⟨n4l, (by rw [s5]; exact fun z => el ((nI_eq (by omega) (by omega)).mp z).symm), rfl⟩))
      · have gm2 : ¬ (nI 0 ≤ m ∧ m ≤ nI 13) := fun z => gm ((in_le (by decide)).mp ⟨(ge0n m).mp z.1, z.2⟩)
        refine ⟨(-1), mk Lx F A J, mk Lx F A J, ?_, ?_, F, A, J, rfl, hx, hI⟩
        · by_cases z : m < 0
          · simp (disch := omega) only [CX6_read, SX6_read_0, SX6_read_1, SX6_read_2, k8, l8, nI_ltI, hk, l7, z, Option.bind_some, Option.bind_none, if_true, if_false, zr0, zr1, one11, one01, one0, one1, Option.toList_some, Option.toList_none, List.cons_append, List.nil_append, Nat.reduceEqDiff, Nat.reduceAdd, not_false_eq_true, not_true_eq_false, and_true, true_and, and_false, false_and, or_true, true_or, or_false, false_or, and_self, or_self, Bool.false_eq_true]
          · have z2 : nI 13 < m := Int32.not_le.mp (fun y => gm2 ⟨(ge0n m).mpr z, y⟩)
            simp (disch := omega) only [CX6_read, SX6_read_0, SX6_read_1, SX6_read_2, k8, l8, nI_ltI, hk, l7, z, z2, Option.bind_some, Option.bind_none, if_true, if_false, zr0, zr1, one11, one01, one0, one1, Option.toList_some, Option.toList_none, List.cons_append, List.nil_append, Nat.reduceEqDiff, Nat.reduceAdd, not_false_eq_true, not_true_eq_false, and_true, true_and, and_false, false_and, or_true, true_or, or_false, false_or, and_self, or_self, Bool.false_eq_true]
        · simp (disch := omega) only [CX7_read, SX7_read_0, c_isSheet, bI_0, k8, k9, l8, l9, c_in, w64N, w64le, gm2, Option.bind_some, Option.bind_none, if_true, if_false, zr0, zr1, one11, one01, one0, one1, Option.toList_some, Option.toList_none, List.cons_append, List.nil_append, Nat.reduceEqDiff, Nat.reduceAdd, not_false_eq_true, not_true_eq_false, and_true, true_and, and_false, false_and, or_true, true_or, or_false, false_or, and_self, or_self, Bool.false_eq_true]
    · have gl2 : ¬ (¬ l < 0 ∧ l ≤ nI 2) := fun z => gl ((in_le (by decide)).mp z)
      refine ⟨(-1), mk Lx F A J, mk Lx F A J, ?_, ?_, F, A, J, rfl, hx, hI⟩
      · by_cases z : l < 0
        · simp (disch := omega) only [CX6_read, SX6_read_0, SX6_read_1, SX6_read_2, k8, nI_ltI, hk, z, Option.bind_some, Option.bind_none, if_true, if_false, zr0, zr1, one11, one01, one0, one1, Option.toList_some, Option.toList_none, List.cons_append, List.nil_append, Nat.reduceEqDiff, Nat.reduceAdd, not_false_eq_true, not_true_eq_false, and_true, true_and, and_false, false_and, or_true, true_or, or_false, false_or, and_self, or_self, Bool.false_eq_true]
        · have z2 : nI 2 < l := Int32.not_le.mp (fun y => gl2 ⟨z, y⟩)
          simp (disch := omega) only [CX6_read, SX6_read_0, SX6_read_1, SX6_read_2, k8, nI_ltI, hk, z, z2, Option.bind_some, Option.bind_none, if_true, if_false, zr0, zr1, one11, one01, one0, one1, Option.toList_some, Option.toList_none, List.cons_append, List.nil_append, Nat.reduceEqDiff, Nat.reduceAdd, not_false_eq_true, not_true_eq_false, and_true, true_and, and_false, false_and, or_true, true_or, or_false, false_or, and_self, or_self, Bool.false_eq_true]
      · simp (disch := omega) only [CX7_read, SX7_read_0, c_isSheet, bI_0, gl2, Option.bind_some, Option.bind_none, if_true, if_false, zr0, zr1, one11, one01, one0, one1, Option.toList_some, Option.toList_none, List.cons_append, List.nil_append, Nat.reduceEqDiff, Nat.reduceAdd, not_false_eq_true, not_true_eq_false, and_true, true_and, and_false, false_and, or_true, true_or, or_false, false_or, and_self, or_self, Bool.false_eq_true]
  · have ga2 : ¬ (¬ a < 0 ∧ a ≤ nI 3) := fun z => ga ((in_le (by decide)).mp z)
    refine ⟨(-1), mk Lx F A J, mk Lx F A J, ?_, ?_, F, A, J, rfl, hx, hI⟩
    · by_cases z : a < 0
      · simp (disch := omega) only [CX6_read, SX6_read_0, SX6_read_1, SX6_read_2, z, Option.bind_some, Option.bind_none, if_true, if_false, zr0, zr1, one11, one01, one0, one1, Option.toList_some, Option.toList_none, List.cons_append, List.nil_append, Nat.reduceEqDiff, Nat.reduceAdd, not_false_eq_true, not_true_eq_false, and_true, true_and, and_false, false_and, or_true, true_or, or_false, false_or, and_self, or_self, Bool.false_eq_true]
      · have z2 : ¬ a < nI 4 := fun y => ga ⟨z, y⟩
        simp (disch := omega) only [CX6_read, SX6_read_0, SX6_read_1, SX6_read_2, z, z2, Option.bind_some, Option.bind_none, if_true, if_false, zr0, zr1, one11, one01, one0, one1, Option.toList_some, Option.toList_none, List.cons_append, List.nil_append, Nat.reduceEqDiff, Nat.reduceAdd, not_false_eq_true, not_true_eq_false, and_true, true_and, and_false, false_and, or_true, true_or, or_false, false_or, and_self, or_self, Bool.false_eq_true]
    · simp (disch := omega) only [CX7_read, SX7_read_0, c_isSheet, bI_0, ga2, Option.bind_some, Option.bind_none, if_true, if_false, zr0, zr1, one11, one01, one0, one1, Option.toList_some, Option.toList_none, List.cons_append, List.nil_append, Nat.reduceEqDiff, Nat.reduceAdd, not_false_eq_true, not_true_eq_false, and_true, true_and, and_false, false_and, or_true, true_or, or_false, false_or, and_self, or_self, Bool.false_eq_true]
end READOP
