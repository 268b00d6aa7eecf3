/-! runs by a seed -/
def nx (s : Int32) : Int32 := s * 1103515245 + nI 12345
def dr (s : Int32) : Int32 := ((s >>> (nI 16 &&& 31)) &&& nI 32767) - ((s >>> (nI 16 &&& 31)) &&& nI 32767) / nI 9 * nI 9 - nI 4
def sv (s : Int32) (f : Nat → Int32) : Nat → Int32 := st4 (dr (nx s)) (dr (nx (nx s))) (dr (nx (nx (nx s)))) (dr (nx (nx (nx (nx s))))) f
theorem sv_c {s : Int32} {f : Nat → Int32} {j : Nat} (hj : j < 8) : sv s (fun j => if j < 8 then nI 0 else f j) j = sv s (fun _ => nI 0) j := by
  simp only [sv, st4, up, if_pos hj]
theorem nine0 : (nI 9 = 0) ↔ False := by decide
theorem three4 : nI 3 < nI 4 ↔ True := by decide
/-- k runs: how many ended, what they cost -/
def rr (c : Nat → Nat → Nat) (n : Nat) (ws : Nat → Nat) : Nat → Int32 → Int32 → Int32 → Int32 × Int32
  | 0, _, u, p => (u, p)
  | k + 1, s, u, p => rr c n ws k (nx (nx (nx (nx s)))) (u + (if (rnA c n ws (sv s (fun _ => nI 0))).2.2.2 = (-4) then nI 1 else nI 0)) (p + (rnA c n ws (sv s (fun _ => nI 0))).2.2.1)
section RUNS
variable {Lx : Nat} {F A : Nat → Nat → Int32} {J : Nat → Nat → Int64} {Q n ou : Nat} {c : Nat → Nat → Nat} {ws : Nat → Nat}
theorem MZ.fr {A' : Nat → Nat → Int32} (h : MZ c n ws A J) (h1 : A' 23 = A 23) (h2 : A' 24 = A 24) (h3 : A' 26 = A 26) : MZ c n ws A' J := by
  unfold MZ
  rw [h1, h2, h3]
  exact h
theorem c_seed (hQ : isM Q) (s : Int32) : dcall mX2_beginBySeed [.ref Q, .int s] (mk Lx F A J) = some (some (.int (nx (nx (nx (nx s))))), mk Lx F (up A (Q + 1) (sv s (fun j => if j < 8 then nI 0 else A (Q + 1) j))) J) := by
  simp (disch := omega) only [CX2_beginBySeed, SX2_beginBySeed, hX2_beginBySeed_12, Gm hQ, c_fillM hQ, nI_ltI, nI_add, Nat.reduceLT, Nat.lt_irrefl, nine0, wm1 hQ, up_eq, up_up, sv, st4, nx, dr, Option.bind_some, Option.bind_none, if_true, if_false, zr0, zr1, one11, one01, one0, one1, Option.toList_some, Option.toList_none, List.cons_append, List.nil_append, Nat.reduceEqDiff, Nat.reduceAdd, not_false_eq_true, not_true_eq_false, and_true, true_and, and_false, false_and, or_true, true_or, or_false, false_or, and_self, or_self, Bool.false_eq_true]
theorem c_draws : dcall mX7_draws [.ref 56] (mk Lx F A J) = some (some (.int (dr (nx (F 56 27)))), mk Lx (up F 56 (up (F 56) 27 (nx (F 56 27)))) A J) := by
  simp (disch := omega) only [CX7_draws, SX7_draws, G56, P56, nine0, up_eq, up_up, nx, dr, Option.bind_some, Option.bind_none, if_true, if_false, zr0, zr1, one11, one01, one0, one1, Option.toList_some, Option.toList_none, List.cons_append, List.nil_append, Nat.reduceEqDiff, Nat.reduceAdd, not_false_eq_true, not_true_eq_false, and_true, true_and, and_false, false_and, or_true, true_or, or_false, false_or, and_self, or_self, Bool.false_eq_true]
theorem l_runs6 (hv : PV n c ws ou) {m : Nat} (hm : m ≤ 100) (sd : Int32) (w : Nat) (hw : w ≤ 1) : ∀ k r (F A : Nat → Nat → Int32) (s u p : Int32), r + k = m → XP F A 12 n c ws ou → MZ c n ws A J → ∃ f g, den mX6_runs 40 [some (.ref 0), some (.int sd), some (.int (nI m)), some (.int (nI w)), some (.ref 22), some (.int s), some (.int u), some (.int p), some (.int (nI r))] [] (mk Lx F A J) = some (some (.int (if w = 0 then (rr c n ws k s u p).1 else (rr c n ws k s u p).2)), mk Lx (up F 29 f) (up A 30 g) J) := by
  intro k
  induction k with
  | zero =>
    intro r F A s u p hr hX hz
    have hlt : ¬ r < m := by omega
    refine ⟨F 29, A 30, ?_⟩
    rw [hX6_runs_40, rr]
    by_cases w0 : w = 0
    · simp (disch := omega) only [SX6_runs_0, SX6_runs_1, nI_ltI, hlt, nI_e0, w0, up_id, eq_self_iff_true, Option.bind_some, Option.bind_none, if_true, if_false, zr0, zr1, one11, one01, one0, one1, Option.toList_some, Option.toList_none, List.cons_append, List.nil_append, Nat.reduceEqDiff, Nat.reduceAdd, not_false_eq_true, not_true_eq_false, and_true, true_and, and_false, false_and, or_true, true_or, or_false, false_or, and_self, or_self, Bool.false_eq_true]
    · simp (disch := omega) only [SX6_runs_0, SX6_runs_1, nI_ltI, hlt, nI_e0, w0, up_id, eq_self_iff_true, Option.bind_some, Option.bind_none, if_true, if_false, zr0, zr1, one11, one01, one0, one1, Option.toList_some, Option.toList_none, List.cons_append, List.nil_append, Nat.reduceEqDiff, Nat.reduceAdd, not_false_eq_true, not_true_eq_false, and_true, true_and, and_false, false_and, or_true, true_or, or_false, false_or, and_self, or_self, Bool.false_eq_true]
  | succ k ih =>
    intro r F A s u p hr hX hz
    have hlt : r < m := by omega
    have hs := c_seed (Lx := Lx) (F := F) (A := A) (J := J) isM_29 s
    obtain ⟨f, g, e1, e2, e3, e4, e5⟩ := c_doAll (Lx := Lx) (F := F) (J := J) (A := up A 30 (sv s (fun j => if j < 8 then nI 0 else A 30 j))) (v := sv s (fun _ => nI 0)) isM_29 (hX.fr rfl (fun d _ _ => up_ne _ _ (by omega))) hv (hz.fr (up_ne _ _ (by omega)) (up_ne _ _ (by omega)) (up_ne _ _ (by omega))) (fun j hj => by rw [up_eq]; exact sv_c hj)
    rw [up_up] at e1
    obtain ⟨f', g', i1⟩ := ih (r + 1) (up F 29 f) (up A 30 g) (nx (nx (nx (nx s)))) (u + (if (rnA c n ws (sv s (fun _ => nI 0))).2.2.2 = (-4) then nI 1 else nI 0)) (p + (rnA c n ws (sv s (fun _ => nI 0))).2.2.1) (by omega) (hX.fr (up_ne _ _ (by omega)) (fun d _ _ => up_ne _ _ (by omega))) (hz.fr (up_ne _ _ (by omega)) (up_ne _ _ (by omega)) (up_ne _ _ (by omega)))
    rw [up_up, up_up] at i1
    refine ⟨f', g', ?_⟩
    rw [hX6_runs_40, rr]
    by_cases z : (rnA c n ws (sv s (fun _ => nI 0))).2.2.2 = (-4)
    · rw [z] at e5
      simp only [if_pos z] at i1 ⊢
      simp (disch := omega) only [SX6_runs_0, SX6_runs_1, G0, Gm isM_29, Om isM_29, nI_ltI, hlt, hs, e1, e4, e5, up_eq, c_oneIf, nI_add, i1, eq_self_iff_true, Option.bind_some, Option.bind_none, if_true, if_false, zr0, zr1, one11, one01, one0, one1, Option.toList_some, Option.toList_none, List.cons_append, List.nil_append, Nat.reduceEqDiff, Nat.reduceAdd, not_false_eq_true, not_true_eq_false, and_true, true_and, and_false, false_and, or_true, true_or, or_false, false_or, and_self, or_self, Bool.false_eq_true]
    · simp only [if_neg z] at i1 ⊢
      simp (disch := omega) only [SX6_runs_0, SX6_runs_1, G0, Gm isM_29, Om isM_29, nI_ltI, hlt, hs, e1, e4, e5, z, up_eq, c_oneIf, nI_add, i1, eq_self_iff_true, Option.bind_some, Option.bind_none, if_true, if_false, zr0, zr1, one11, one01, one0, one1, Option.toList_some, Option.toList_none, List.cons_append, List.nil_append, Nat.reduceEqDiff, Nat.reduceAdd, not_false_eq_true, not_true_eq_false, and_true, true_and, and_false, false_and, or_true, true_or, or_false, false_or, and_self, or_self, Bool.false_eq_true]
theorem l_runs7 (hv : PV n c ws ou) {m : Nat} (hm : m ≤ 100) (sd : Int32) (w : Nat) (hw : w ≤ 1) : ∀ k r (F A : Nat → Nat → Int32) (J : Nat → Nat → Int64) (u p : Int32) (l7 l8 l9 : Option Value), r + k = m → M0 (A 57) n c ws ou → ∃ F' A' J', den mX7_runs 35 [some (.ref 56), some (.int sd), some (.int (nI m)), some (.int (nI w)), some (.int u), some (.int p), some (.int (nI r)), l7, l8, l9] [] (mk Lx F A J) = some (some (.int (if w = 0 then (rr c n ws k (F 56 27) u p).1 else (rr c n ws k (F 56 27) u p).2)), mk Lx F' A' J') ∧ (∀ q, q ≠ 63 → q ≠ 65 → q ≠ 66 → q ≠ 68 → q ≠ 69 → A' q = A q) ∧ (∀ p, p ≠ 56 → F' p = F p) ∧ ∀ q, q ≠ 24 → q ≠ 25 → q ≠ 26 → q ≠ 27 → F' 56 q = F 56 q := by
  intro k
  induction k with
  | zero =>
    intro r F A J u p l7 l8 l9 hr hM
    have hlt : ¬ r < m := by omega
    refine ⟨F, A, J, ?_, fun _ _ _ _ _ _ => rfl, fun _ _ => rfl, fun _ _ _ _ _ => rfl⟩
    rw [hX7_runs_35, rr]
    by_cases w0 : w = 0
    · simp (disch := omega) only [SX7_runs_0, SX7_runs_1, nI_ltI, hlt, nI_e0, w0, eq_self_iff_true, Option.bind_some, Option.bind_none, if_true, if_false, zr0, zr1, one11, one01, one0, one1, Option.toList_some, Option.toList_none, List.cons_append, List.nil_append, Nat.reduceEqDiff, Nat.reduceAdd, not_false_eq_true, not_true_eq_false, and_true, true_and, and_false, false_and, or_true, true_or, or_false, false_or, and_self, or_self, Bool.false_eq_true]
    · simp (disch := omega) only [SX7_runs_0, SX7_runs_1, nI_ltI, hlt, nI_e0, w0, eq_self_iff_true, Option.bind_some, Option.bind_none, if_true, if_false, zr0, zr1, one11, one01, one0, one1, Option.toList_some, Option.toList_none, List.cons_append, List.nil_append, Nat.reduceEqDiff, Nat.reduceAdd, not_false_eq_true, not_true_eq_false, and_true, true_and, and_false, false_and, or_true, true_or, or_false, false_or, and_self, or_self, Bool.false_eq_true]
  | succ k ih =>
    intro r F A J u p l7 l8 l9 hr hM
    have hlt : r < m := by omega
    obtain ⟨F1, A1, J1, r1, r2, r3, r4, r5, r6, r7, r8⟩ := c_runs1 (Lx := Lx) (F := up F 56 (up (F 56) 27 (nx (nx (nx (nx (F 56 27))))))) (J := J) (A := up A 66 (sv (F 56 27) (fun j => if j < 8 then nI 0 else A 66 j))) (v := sv (F 56 27) (fun _ => nI 0)) (by rw [up_ne _ _ (by omega)]; exact hM) hv (fun j hj => by rw [up_eq]; exact sv_c hj)
    obtain ⟨F2, A2, J2, i1, i2, i3, i4⟩ := ih (r + 1) F1 A1 J1 (u + (if (rnA c n ws (sv (F 56 27) (fun _ => nI 0))).2.2.2 = (-4) then nI 1 else nI 0)) (p + (rnA c n ws (sv (F 56 27) (fun _ => nI 0))).2.2.1) (some (.int (dr (nx (F 56 27))))) (some (.int (dr (nx (nx (F 56 27)))))) (some (.int (dr (nx (nx (nx (F 56 27))))))) (by omega) (by rw [r6 57 (by omega) (by omega) (by omega) (by omega) (by omega), up_ne _ _ (by omega)]; exact hM)
    have e27 : F1 56 27 = nx (nx (nx (nx (F 56 27)))) := by rw [r8 27 (by omega) (by omega) (by omega), up_eq, up_eq]
    rw [e27] at i1
    refine ⟨F2, A2, J2, ?_, fun q a1 a2 a3 a4 a5 => by rw [i2 q a1 a2 a3 a4 a5, r6 q a1 a2 a3 a4 a5, up_ne _ _ a3], fun p hp => by rw [i3 p hp, r7 p hp, up_ne _ _ hp], fun q a1 a2 a3 a4 => by rw [i4 q a1 a2 a3 a4, r8 q a1 a2 a3, up_eq, up_ne _ _ a4]⟩
    rw [hX7_runs_35, rr]
    unfold sv at r1
    by_cases z : (rnA c n ws (sv (F 56 27) (fun _ => nI 0))).2.2.2 = (-4)
    · rw [z] at r5
      simp only [if_pos z] at i1 ⊢
      simp (disch := omega) only [SX7_runs_0, SX7_runs_1, G56, O56, nI_ltI, hlt, c_draws, up_eq, up_up, c_starts, r1, r4, r5, c_flag, nI_add, i1, eq_self_iff_true, Option.bind_some, Option.bind_none, if_true, if_false, zr0, zr1, one11, one01, one0, one1, Option.toList_some, Option.toList_none, List.cons_append, List.nil_append, Nat.reduceEqDiff, Nat.reduceAdd, not_false_eq_true, not_true_eq_false, and_true, true_and, and_false, false_and, or_true, true_or, or_false, false_or, and_self, or_self, Bool.false_eq_true]
    · simp only [if_neg z] at i1 ⊢
      simp (disch := omega) only [SX7_runs_0, SX7_runs_1, G56, O56, nI_ltI, hlt, c_draws, up_eq, up_up, c_starts, r1, r4, r5, z, c_flag, nI_add, i1, eq_self_iff_true, Option.bind_some, Option.bind_none, if_true, if_false, zr0, zr1, one11, one01, one0, one1, Option.toList_some, Option.toList_none, List.cons_append, List.nil_append, Nat.reduceEqDiff, Nat.reduceAdd, not_false_eq_true, not_true_eq_false, and_true, true_and, and_false, false_and, or_true, true_or, or_false, false_or, and_self, or_self, Bool.false_eq_true]
theorem op_runs {σ : dS} {xs : Nat → Int32} (h : Iv Lx xs σ) (s m w : Int32) : okI Lx xs mX6_runs mX7_runs [.int s, .int m, .int w] σ := by
  obtain ⟨F, A, J, rfl, hx, hI⟩ := h
  obtain ⟨hT, hP, ⟨hI0, hI1⟩, hR, ⟨hS0, hS1, hS2, hS3⟩, hf, hto⟩ := id hI
  obtain ⟨n, c, ws, ou, hv, hX, hM⟩ := hP
  by_cases hm : nI 1 ≤ m ∧ m ≤ nI 100
  · have m1 : ¬ m < nI 1 := Int32.not_lt.mpr hm.1
    have m2 : ¬ nI 100 < m := Int32.not_lt.mpr hm.2
    by_cases g' : ¬ w < 0 ∧ w ≤ nI 1
    · have q3 : ¬ nI 1 < w := Int32.not_lt.mpr g'.2
      obtain ⟨k, hk, rfl⟩ : ∃ k : Nat, k ≤ 100 ∧ m = nI k := by
        obtain ⟨k, hk, rfl⟩ := nI_of (x := m) (fun z => m1 (i32_lt z (by decide)))
        exact ⟨k, by have := (nI_leI hk (by decide)).mp hm.2; exact this, rfl⟩
      obtain ⟨v, hw, rfl⟩ : ∃ k : Nat, k ≤ 1 ∧ w = nI k := by
        obtain ⟨k, hk, rfl⟩ := nI_of (x := w) g'.1
        exact ⟨k, by have := (nI_leI hk (by decide)).mp g'.2; exact this, rfl⟩
      obtain ⟨A1, J1, d1, d2, d3, d4⟩ := c_measured (Lx := Lx) (J := J) hX hv
      have hX1 : XP F A1 12 n c ws ou := hX.fr rfl (fun d _ _ => by rw [d3 _ (by omega) (by omega) (by omega)])
      obtain ⟨f, g, e1⟩ := l_runs6 (Lx := Lx) (J := J1) hv hk s v hw k 0 F A1 s (nI 0) (nI 0) (by omega) hX1 d2
      have hM1 : M0 (up A1 30 g 57) n c ws ou := by rw [up_ne _ _ (by omega), d3 57 (by decide) (by decide) (by decide)]; exact hM
      obtain ⟨F2, A2, J2, i1, i2, i3, i4⟩ := l_runs7 (Lx := Lx) hv hk s v hw k 0 (up (up F 29 f) 56 (up (up F 29 f 56) 27 s)) (up A1 30 g) J1 (nI 0) (nI 0) none none none (by omega) hM1
      rw [up_eq, up_eq] at i1
      rw [up_ne _ _ (by omega : (56 : Nat) ≠ 29)] at i1
      refine ⟨(if v = 0 then (rr c n ws k s (nI 0) (nI 0)).1 else (rr c n ws k s (nI 0) (nI 0)).2), mk Lx (up F 29 f) (up A1 30 g) J1, mk Lx F2 A2 J2, ?_, ?_, F2, A2, J2, rfl, ?_, ?_⟩
      · simp (disch := omega) only [CX6_runs, SX6_runs_0, SX6_runs_1, O0, m1, m2, g'.1, q3, d1, e1, Option.bind_some, Option.bind_none, if_true, if_false, zr0, zr1, one11, one01, one0, one1, Option.toList_some, Option.toList_none, List.cons_append, List.nil_append, Nat.reduceEqDiff, Nat.reduceAdd, not_false_eq_true, not_true_eq_false, and_true, true_and, and_false, false_and, or_true, true_or, or_false, false_or, and_self, or_self, Bool.false_eq_true]
      · simp (disch := omega) only [CX7_runs, SX7_runs_0, SX7_runs_1, P56, c_in, w64N, w64le, c_isPart, bI_0, hm.1, hm.2, g', up_ne, i1, Option.bind_some, Option.bind_none, if_true, if_false, zr0, zr1, one11, one01, one0, one1, Option.toList_some, Option.toList_none, List.cons_append, List.nil_append, Nat.reduceEqDiff, Nat.reduceAdd, not_false_eq_true, not_true_eq_false, and_true, true_and, and_false, false_and, or_true, true_or, or_false, false_or, and_self, or_self, Bool.false_eq_true]
      · rw [i2 75 (by omega) (by omega) (by omega) (by omega) (by omega), up_ne _ _ (by omega), d3 75 (by decide) (by decide) (by decide)]; exact hx
      · have fE : ∀ q, q ≠ 24 → q ≠ 25 → q ≠ 26 → q ≠ 27 → F2 56 q = F 56 q := fun q a1 a2 a3 a4 => by rw [i4 q a1 a2 a3 a4, up_eq, up_ne _ _ a4, up_ne _ _ (by omega)]
        have pE : ∀ p, p ≠ 29 → p ≠ 56 → F2 p = F p := fun p a1 a2 => by rw [i3 p a2, up_ne _ _ a2, up_ne _ _ a1]
        have aE : ∀ q, q ≠ 23 → q ≠ 24 → q ≠ 26 → q ≠ 30 → q ≠ 63 → q ≠ 65 → q ≠ 66 → q ≠ 68 → q ≠ 69 → A2 q = A q := fun q a1 a2 a3 a4 a5 a6 a7 a8 a9 => by rw [i2 q a5 a6 a7 a8 a9, up_ne _ _ a4, d3 q a1 a2 a3]
        exact hI.frR (fun p a1 a2 a3 a4 => pE p a3 a4) (by rw [pE 0 (by omega) (by omega)]) (fE 5 (by omega) (by omega) (by omega) (by omega)) (fE 10 (by omega) (by omega) (by omega) (by omega)) (fE 32 (by omega) (by omega) (by omega) (by omega)) (fun q b1 b2 b3 b4 b5 b6 b7 b8 b9 b10 b11 => aE q b1 b2 b3 b5 b6 b7 b8 b10 b11) (hR.fr (by rw [pE 0 (by omega) (by omega)]) (fE 20 (by omega) (by omega) (by omega) (by omega)) (pE 27 (by omega) (by omega)) (fE 21 (by omega) (by omega) (by omega) (by omega)) (by apply aE <;> omega) (by apply aE <;> omega))
    · refine ⟨(-1), mk Lx F A J, mk Lx F A J, ?_, ?_, F, A, J, rfl, hx, hI⟩
      · by_cases z : w < 0
        · simp (disch := omega) only [CX6_runs, SX6_runs_0, SX6_runs_1, m1, m2, z, Option.bind_some, Option.bind_none, if_true, if_false, zr0, zr1, one11, one01, one0, one1, Option.toList_some, Option.toList_none, List.cons_append, List.nil_append, Nat.reduceEqDiff, Nat.reduceAdd, not_false_eq_true, not_true_eq_false, and_true, true_and, and_false, false_and, or_true, true_or, or_false, false_or, and_self, or_self, Bool.false_eq_true]
        · have z2 : nI 1 < w := Int32.not_le.mp (fun y => g' ⟨z, y⟩)
          simp (disch := omega) only [CX6_runs, SX6_runs_0, SX6_runs_1, m1, m2, z, z2, Option.bind_some, Option.bind_none, if_true, if_false, zr0, zr1, one11, one01, one0, one1, Option.toList_some, Option.toList_none, List.cons_append, List.nil_append, Nat.reduceEqDiff, Nat.reduceAdd, not_false_eq_true, not_true_eq_false, and_true, true_and, and_false, false_and, or_true, true_or, or_false, false_or, and_self, or_self, Bool.false_eq_true]
      · simp (disch := omega) only [CX7_runs, SX7_runs_0, SX7_runs_1, c_in, w64N, w64le, c_isPart, bI_0, hm.1, hm.2, g', Option.bind_some, Option.bind_none, if_true, if_false, zr0, zr1, one11, one01, one0, one1, Option.toList_some, Option.toList_none, List.cons_append, List.nil_append, Nat.reduceEqDiff, Nat.reduceAdd, not_false_eq_true, not_true_eq_false, and_true, true_and, and_false, false_and, or_true, true_or, or_false, false_or, and_self, or_self, Bool.false_eq_true]
  · refine ⟨(-1), mk Lx F A J, mk Lx F A J, ?_, ?_, F, A, J, rfl, hx, hI⟩
    · by_cases z : m < nI 1
      · simp (disch := omega) only [CX6_runs, SX6_runs_0, SX6_runs_1, z, Option.bind_some, Option.bind_none, if_true, if_false, zr0, zr1, one11, one01, one0, one1, Option.toList_some, Option.toList_none, List.cons_append, List.nil_append, Nat.reduceEqDiff, Nat.reduceAdd, not_false_eq_true, not_true_eq_false, and_true, true_and, and_false, false_and, or_true, true_or, or_false, false_or, and_self, or_self, Bool.false_eq_true]
      · have z2 : nI 100 < m := Int32.not_le.mp (fun y => hm ⟨Int32.not_lt.mp z, y⟩)
        simp (disch := omega) only [CX6_runs, SX6_runs_0, SX6_runs_1, z, z2, Option.bind_some, Option.bind_none, if_true, if_false, zr0, zr1, one11, one01, one0, one1, Option.toList_some, Option.toList_none, List.cons_append, List.nil_append, Nat.reduceEqDiff, Nat.reduceAdd, not_false_eq_true, not_true_eq_false, and_true, true_and, and_false, false_and, or_true, true_or, or_false, false_or, and_self, or_self, Bool.false_eq_true]
    · simp (disch := omega) only [CX7_runs, SX7_runs_0, SX7_runs_1, c_in, w64N, w64le, bI_0, hm, Option.bind_some, Option.bind_none, if_true, if_false, zr0, zr1, one11, one01, one0, one1, Option.toList_some, Option.toList_none, List.cons_append, List.nil_append, Nat.reduceEqDiff, Nat.reduceAdd, not_false_eq_true, not_true_eq_false, and_true, true_and, and_false, false_and, or_true, true_or, or_false, false_or, and_self, or_self, Bool.false_eq_true]
end RUNS
