theorem pred_lt {q : Nat} (h : q < 2 ^ 30) : (nI q + (-1) < nI q) ↔ True := by
  rw [iff_true]
  rcases Nat.eq_zero_or_pos q with z | z
  · rw [z]; decide
  · obtain ⟨r, rfl⟩ : ∃ r, q = r + 1 := ⟨q - 1, by omega⟩
    rw [nI_dec]
    exact nI_lt (by omega) (by omega)
section MERGE7
variable {Lx : Nat} {F : Nat → Nat → Int32} {J : Nat → Nat → Int64} {n ou : Nat} {c : Nat → Nat → Nat} {ws : Nat → Nat}
theorem t_al {A : Nat → Nat → Int32} (hM : M0 (A 57) n c ws ou) (hv : PV n c ws ou) {a b k : Nat} (ha : a < n) (hb : b < n) (hk : k ≤ 3) (is : Bool) {X : Option (Option Value × dS)} (hX : den mX7_isAlike 19 [some (.ref 56), some (.int (nI a)), some (.int (nI b)), some (.int (zI (is && (c a k == c b k)))), some (.int (nI (k + 1)))] [] (mk Lx F A J) = X) : den mX7_isAlike 19 [some (.ref 56), some (.int (nI a)), some (.int (nI b)), some (.int (zI is)), some (.int (nI k))] [] (mk Lx F A J) = X := by
  have hn := hv.1
  have g1 := hM.2.2.1 a ha k (by omega)
  have g2 := hM.2.2.1 b hb k (by omega)
  have hlt : ¬ 3 < k := by omega
  have bd : ∀ i, i < n → c i k < 100 := fun i hi => by
    have q := hv.b hi
    obtain rfl | rfl | rfl | rfl : k = 0 ∨ k = 1 ∨ k = 2 ∨ k = 3 := by omega
    all_goals omega
  have ba := bd a ha
  have bb := bd b hb
  rw [hX7_isAlike_19]
  cases is with
  | false =>
    rw [Bool.false_and, zIf] at hX
    simp (disch := omega) only [SX7_isAlike, nI_ltI, hlt, zIf, nI_add, hX, Option.bind_some, Option.bind_none, if_true, if_false, zr0, zr1, one11, one01, one0, one1, Option.toList_some, Option.toList_none, List.cons_append, List.nil_append, Nat.reduceEqDiff, Nat.reduceAdd, not_false_eq_true, not_true_eq_false, and_true, true_and, and_false, false_and, or_true, true_or, or_false, false_or, and_self, or_self, Bool.false_eq_true]
  | true =>
    rw [Bool.true_and] at hX
    by_cases e : c a k = c b k
    · rw [beq_iff_eq.mpr e, zIt] at hX
      simp (disch := omega) only [SX7_isAlike, O56, c_of, g1, g2, nI_ltI, nI_eq, hlt, e, eq_self_iff_true, zIt, nI_add, hX, Option.bind_some, Option.bind_none, if_true, if_false, zr0, zr1, one11, one01, one0, one1, Option.toList_some, Option.toList_none, List.cons_append, List.nil_append, Nat.reduceEqDiff, Nat.reduceAdd, not_false_eq_true, not_true_eq_false, and_true, true_and, and_false, false_and, or_true, true_or, or_false, false_or, and_self, or_self, Bool.false_eq_true]
    · rw [beq_eq_false_iff_ne.mpr e, zIf] at hX
      simp (disch := omega) only [SX7_isAlike, O56, c_of, g1, g2, nI_ltI, nI_eq, hlt, e, zIt, nI_add, hX, Option.bind_some, Option.bind_none, if_true, if_false, zr0, zr1, one11, one01, one0, one1, Option.toList_some, Option.toList_none, List.cons_append, List.nil_append, Nat.reduceEqDiff, Nat.reduceAdd, not_false_eq_true, not_true_eq_false, and_true, true_and, and_false, false_and, or_true, true_or, or_false, false_or, and_self, or_self, Bool.false_eq_true]
theorem c_isAlike {A : Nat → Nat → Int32} (hM : M0 (A 57) n c ws ou) (hv : PV n c ws ou) {a b : Nat} (ha : a < n) (hb : b < n) : dcall mX7_isAlike [.ref 56, .int (nI a), .int (nI b)] (mk Lx F A J) = some (some (.int (zI (c a 0 != 5 && alk c a b))), mk Lx F A J) := by
  have hn := hv.1
  have q := (hv.b ha).1
  have g1 := hM.2.2.1 a ha 0 (by omega)
  rw [Nat.add_zero] at g1
  have l : ∀ is : Bool, den mX7_isAlike 19 [some (.ref 56), some (.int (nI a)), some (.int (nI b)), some (.int (zI is)), some (.int (nI 0))] [] (mk Lx F A J) = some (some (.int (zI (is && alk c a b))), mk Lx F A J) := fun is => by
    refine t_al hM hv ha hb (by omega) is (t_al hM hv ha hb (by omega) _ (t_al hM hv ha hb (by omega) _ (t_al hM hv ha hb (by omega) _ ?_)))
    have h34 : 3 < 3 + 1 := by decide
    rw [hX7_isAlike_19]
    simp (disch := omega) only [SX7_isAlike, nI_ltI, h34, zI_z, alk, Bool.and_assoc, Option.bind_some, Option.bind_none, if_true, if_false, zr0, zr1, one11, one01, one0, one1, Option.toList_some, Option.toList_none, List.cons_append, List.nil_append, Nat.reduceEqDiff, Nat.reduceAdd, not_false_eq_true, not_true_eq_false, and_true, true_and, and_false, false_and, or_true, true_or, or_false, false_or, and_self, or_self, Bool.false_eq_true]
  by_cases e5 : c a 0 = 5
  · have e := l false
    rw [zIf] at e
    rw [bne_eq_false_iff_eq.mpr e5]
    rw [e5] at g1
    simp (disch := omega) only [CX7_isAlike, SX7_isAlike, O56, c_of, Nat.add_zero, g1, eq_self_iff_true, e, Option.bind_some, Option.bind_none, if_true, if_false, zr0, zr1, one11, one01, one0, one1, Option.toList_some, Option.toList_none, List.cons_append, List.nil_append, Nat.reduceEqDiff, Nat.reduceAdd, not_false_eq_true, not_true_eq_false, and_true, true_and, and_false, false_and, or_true, true_or, or_false, false_or, and_self, or_self, Bool.false_eq_true]
  · have e := l true
    rw [zIt] at e
    rw [bne_iff_ne.mpr e5]
    simp (disch := omega) only [CX7_isAlike, SX7_isAlike, O56, c_of, Nat.add_zero, g1, nI_eq, e5, e, Option.bind_some, Option.bind_none, if_true, if_false, zr0, zr1, one11, one01, one0, one1, Option.toList_some, Option.toList_none, List.cons_append, List.nil_append, Nat.reduceEqDiff, Nat.reduceAdd, not_false_eq_true, not_true_eq_false, and_true, true_and, and_false, false_and, or_true, true_or, or_false, false_or, and_self, or_self, Bool.false_eq_true]
theorem l_sh0 {p : Nat} (hp : p < 23) (a v0 v1 v2 v3 v4 : Int32) (l1 l4 : Option Value) (A : Nat → Nat → Int32) : den mX7_isMerged 120 [some (.ref 56), l1, some (.int (nI p)), some (.int a), l4, some (.int v0), some (.int v1), some (.int v2), some (.int v3), some (.int v4), some (.int (nI (5 * p) + (-1)))] [] (mk Lx F A J) = some (some (.int (nI 1)), mk Lx F (up A 57 (up (up (up (up (up (A 57) (5 * p) v0) (5 * p + 1) v1) (5 * p + 2) v2) (5 * p + 3) v3) (5 * p + 4) v4)) J) := by
  have hlt : nI (5 * p) + (-1) < nI (5 * p) := (pred_lt (by omega)).mpr trivial
  obtain ⟨-, -, -, -, -, -, -, -, -, -, -, -, -, -, -, -, -, -, -, -, -, -, -, -, -, -, -, -, -, -, -, -, -, -, -, -, r122, r123, r124, r125⟩ := SX7_isMerged_1
  rw [hX7_isMerged_120, r122, r123, r124, nI_m, r125, if_pos hlt]
  simp (disch := omega) only [SX7_isMerged_2, SX7_isMerged_3, G56, nI_m, nI_add, Nat.add_zero, w57, up_eq, up_up, Option.bind_some, Option.bind_none, if_true, if_false, zr0, zr1, one11, one01, one0, one1, Option.toList_some, Option.toList_none, List.cons_append, List.nil_append, Nat.reduceEqDiff, Nat.reduceAdd, not_false_eq_true, not_true_eq_false, and_true, true_and, and_false, false_and, or_true, true_or, or_false, false_or, and_self, or_self, Bool.false_eq_true]
theorem l_sh1 {p t : Nat} (hp : p < 23) (h1 : 5 * p < t) (h2 : t ≤ 115) (a v0 v1 v2 v3 v4 : Int32) (l1 l4 : Option Value) (A : Nat → Nat → Int32) {X : Option (Option Value × dS)} (hX : den mX7_isMerged 120 [some (.ref 56), l1, some (.int (nI p)), some (.int a), l4, some (.int v0), some (.int v1), some (.int v2), some (.int v3), some (.int v4), some (.int (nI (t - 1) + (-1)))] [] (mk Lx F (up A 57 (up (A 57) (t + 4) (A 57 (t - 1)))) J) = X) : den mX7_isMerged 120 [some (.ref 56), l1, some (.int (nI p)), some (.int a), l4, some (.int v0), some (.int v1), some (.int v2), some (.int v3), some (.int v4), some (.int (nI (t - 1)))] [] (mk Lx F A J) = X := by
  have hlt : ¬ t - 1 < 5 * p := by omega
  have e5 : t - 1 + 5 = t + 4 := by omega
  rw [hX7_isMerged_120]
  simp (disch := omega) only [SX7_isMerged_0, SX7_isMerged_1, SX7_isMerged_2, SX7_isMerged_3, G56, leN, nI_m, nI_ltI, hlt, nI_add, e5, a57, w57, hX, Option.bind_some, Option.bind_none, if_true, if_false, zr0, zr1, one11, one01, one0, one1, Option.toList_some, Option.toList_none, List.cons_append, List.nil_append, Nat.reduceEqDiff, Nat.reduceAdd, not_false_eq_true, not_true_eq_false, and_true, true_and, and_false, false_and, or_true, true_or, or_false, false_or, and_self, or_self, Bool.false_eq_true]
theorem l_sh {p a : Nat} (hp : p < a) (ha : a < 24) (v : Nat → Nat) (l1 l4 : Option Value) : ∀ K t (A : Nat → Nat → Int32), 5 * p + K = t → t ≤ 5 * a → ∃ h, den mX7_isMerged 120 [some (.ref 56), l1, some (.int (nI p)), some (.int (nI a)), l4, some (.int (nI (v 0))), some (.int (nI (v 1))), some (.int (nI (v 2))), some (.int (nI (v 3))), some (.int (nI (v 4))), some (.int (nI t + (-1)))] [] (mk Lx F A J) = some (some (.int (nI 1)), mk Lx F (up A 57 h) J) ∧ (∀ w, w < 5 → h (5 * p + w) = nI (v w)) ∧ (∀ s, 5 * p + 5 ≤ s → s < t + 5 → h s = A 57 (s - 5)) ∧ ∀ s, s < 5 * p ∨ t + 5 ≤ s → h s = A 57 s := by
  intro K
  induction K with
  | zero =>
    intro t A ht hta
    have e : t = 5 * p := by omega
    subst e
    refine ⟨up (up (up (up (up (A 57) (5 * p) (nI (v 0))) (5 * p + 1) (nI (v 1))) (5 * p + 2) (nI (v 2))) (5 * p + 3) (nI (v 3))) (5 * p + 4) (nI (v 4)), ?_, fun w hw => ?_, fun s h1 h2 => absurd h2 (by omega), fun s hs => ?_⟩
    · exact l_sh0 (by omega) _ _ _ _ _ _ l1 l4 A
    · obtain rfl | rfl | rfl | rfl | rfl : w = 0 ∨ w = 1 ∨ w = 2 ∨ w = 3 ∨ w = 4 := by omega
      all_goals simp (disch := omega) only [Nat.add_zero, up_eq, up_ne]
    · simp (disch := omega) only [up_ne]
  | succ K ih =>
    intro t A ht hta
    obtain ⟨h, g1, g2, g3, g4⟩ := ih (t - 1) (up A 57 (up (A 57) (t + 4) (A 57 (t - 1)))) (by omega) (by omega)
    rw [up_up] at g1
    refine ⟨h, ?_, g2, fun s h1 h2 => ?_, fun s hs => ?_⟩
    · have ei : nI t + (-1) = nI (t - 1) := by
        obtain ⟨q, rfl⟩ : ∃ q, t = q + 1 := ⟨t - 1, by omega⟩
        rw [nI_dec, Nat.add_sub_cancel]
      rw [ei]
      exact l_sh1 (by omega) (by omega) (by omega) _ _ _ _ _ _ l1 l4 A g1
    · by_cases z : s = t + 4
      · rw [g4 s (by omega), up_eq, z, up_eq, show t + 4 - 5 = t - 1 by omega]
      · rw [g3 s h1 (by omega), up_eq, up_ne _ _ (by omega)]
    · rw [g4 s (by omega), up_eq, up_ne _ _ (by omega)]
theorem c_isMergedN {A : Nat → Nat → Int32} (hM : M0 (A 57) n c ws ou) (hv : PV n c ws ou) {j : Nat} (hj : j < nif c n) (hm : mmB c n j = false) : dcall mX7_isMerged [.ref 56, .int (nI j)] (mk Lx F A J) = some (some (.int (nI 0)), mk Lx F A J) := by
  have hn := hv.1
  have hn6 := hv.2.1
  obtain ⟨p1, p2, p3⟩ := ipl_spec hj
  have co := c_codeOf (Lx := Lx) (F := F) (J := J) hM hv hj
  have f1 := c_firstUnderM (Lx := Lx) (F := F) (J := J) hM hv (g := 2 * j + 1) (by omega)
  have f2 := c_firstUnderM (Lx := Lx) (F := F) (J := J) hM hv (g := 2 * j + 2) (by omega)
  have m44 : ((-4 : Int32) = (-4)) ↔ True := by decide
  unfold mmB at hm
  cases ea : fuA c n (2 * j + 1) with
  | none =>
    unfold fuA at ea
    rw [ea] at f1
    cases eb : fstF (fun i => c i 4 == 2 * j + 2) 0 n with
    | none =>
      rw [eb] at f2
      simp (disch := omega) only [CX7_isMerged, SX7_isMerged_0, SX7_isMerged_1, SX7_isMerged_2, SX7_isMerged_3, O56, co, nI_m, nI_add, f1, f2, oI, m44, Option.bind_some, Option.bind_none, if_true, if_false, zr0, zr1, one11, one01, one0, one1, Option.toList_some, Option.toList_none, List.cons_append, List.nil_append, Nat.reduceEqDiff, Nat.reduceAdd, not_false_eq_true, not_true_eq_false, and_true, true_and, and_false, false_and, or_true, true_or, or_false, false_or, and_self, or_self, Bool.false_eq_true]
    | some b =>
      rw [eb] at f2
      simp (disch := omega) only [CX7_isMerged, SX7_isMerged_0, SX7_isMerged_1, SX7_isMerged_2, SX7_isMerged_3, O56, co, nI_m, nI_add, f1, f2, oI, m44, Option.bind_some, Option.bind_none, if_true, if_false, zr0, zr1, one11, one01, one0, one1, Option.toList_some, Option.toList_none, List.cons_append, List.nil_append, Nat.reduceEqDiff, Nat.reduceAdd, not_false_eq_true, not_true_eq_false, and_true, true_and, and_false, false_and, or_true, true_or, or_false, false_or, and_self, or_self, Bool.false_eq_true]
  | some a =>
    obtain ⟨a1, a2⟩ := fuA_some ea
    have qa := hv.b a1
    have n4a : ¬ nI a = (-4) := nI_m4 (by omega)
    rw [ea] at hm
    unfold fuA at ea
    rw [ea] at f1
    cases eb : fuA c n (2 * j + 2) with
    | none =>
      unfold fuA at eb
      rw [eb] at f2
      simp (disch := omega) only [CX7_isMerged, SX7_isMerged_0, SX7_isMerged_1, SX7_isMerged_2, SX7_isMerged_3, O56, co, nI_m, nI_add, f1, f2, oI, n4a, m44, Option.bind_some, Option.bind_none, if_true, if_false, zr0, zr1, one11, one01, one0, one1, Option.toList_some, Option.toList_none, List.cons_append, List.nil_append, Nat.reduceEqDiff, Nat.reduceAdd, not_false_eq_true, not_true_eq_false, and_true, true_and, and_false, false_and, or_true, true_or, or_false, false_or, and_self, or_self, Bool.false_eq_true]
    | some b =>
      obtain ⟨b1, b2⟩ := fuA_some eb
      have n4b : ¬ nI b = (-4) := nI_m4 (by omega)
      rw [eb] at hm
      unfold fuA at eb
      rw [eb] at f2
      have qp := hv.b p1
      have al := c_isAlike (Lx := Lx) (F := F) (J := J) hM hv a1 b1
      have hm2 : (c a 0 != 5 && (alk c a b && c a 1 != c (ipl c n j) 1)) = false := hm
      rw [← Bool.and_assoc] at hm2
      cases ek : (c a 0 != 5 && alk c a b) with
      | false =>
        rw [ek, zIf] at al
        simp (disch := omega) only [CX7_isMerged, SX7_isMerged_0, SX7_isMerged_1, SX7_isMerged_2, SX7_isMerged_3, O56, co, nI_m, nI_add, f1, f2, oI, n4a, n4b, al, Option.bind_some, Option.bind_none, if_true, if_false, zr0, zr1, one11, one01, one0, one1, Option.toList_some, Option.toList_none, List.cons_append, List.nil_append, Nat.reduceEqDiff, Nat.reduceAdd, not_false_eq_true, not_true_eq_false, and_true, true_and, and_false, false_and, or_true, true_or, or_false, false_or, and_self, or_self, Bool.false_eq_true]
      | true =>
        rw [ek, zIt] at al
        rw [ek, Bool.true_and, bne_eq_false_iff_eq] at hm2
        have g1 := hM.2.2.1 a a1 1 (by omega)
        have g2 := hM.2.2.1 _ p1 1 (by omega)
        simp (disch := omega) only [CX7_isMerged, SX7_isMerged_0, SX7_isMerged_1, SX7_isMerged_2, SX7_isMerged_3, O56, co, nI_m, nI_add, f1, f2, oI, n4a, n4b, al, c_of, g1, g2, hm2, eq_self_iff_true, Option.bind_some, Option.bind_none, if_true, if_false, zr0, zr1, one11, one01, one0, one1, Option.toList_some, Option.toList_none, List.cons_append, List.nil_append, Nat.reduceEqDiff, Nat.reduceAdd, not_false_eq_true, not_true_eq_false, and_true, true_and, and_false, false_and, or_true, true_or, or_false, false_or, and_self, or_self, Bool.false_eq_true]
theorem c_isMergedY {A : Nat → Nat → Int32} (hM : M0 (A 57) n c ws ou) (hv : PV n c ws ou) {j a b : Nat} (hj : j < nif c n) (ea : fuA c n (2 * j + 1) = some a) (eb : fuA c n (2 * j + 2) = some b) (h5 : c a 0 ≠ 5) (hal : alk c a b = true) (h1 : c a 1 ≠ c (ipl c n j) 1) : ∃ A', dcall mX7_isMerged [.ref 56, .int (nI j)] (mk Lx F A J) = some (some (.int (nI 1)), mk Lx F A' J) ∧ M0 (A' 57) (n - 1) (mC c (ipl c n j) a b) ws ou ∧ ∀ q, q ≠ 57 → A' q = A q := by
  have hn := hv.1
  have hn6 := hv.2.1
  obtain ⟨o1, o2, o3⟩ := m_ord hv hj ea eb
  obtain ⟨a1, a2⟩ := fuA_some ea
  obtain ⟨b1, b2⟩ := fuA_some eb
  obtain ⟨p1, p2, p3⟩ := ipl_spec hj
  have qa := hv.b a1
  have qp := hv.b p1
  have hb5 : c b 0 ≠ 5 := by rw [← alk_eq hal]; exact h5
  obtain ⟨pv, en⟩ := m_PV hv o1 o2 o3 h5 hb5
  have co := c_codeOf (Lx := Lx) (F := F) (J := J) hM hv hj
  have f1 := c_firstUnderM (Lx := Lx) (F := F) (J := J) hM hv (g := 2 * j + 1) (by omega)
  have f2 := c_firstUnderM (Lx := Lx) (F := F) (J := J) hM hv (g := 2 * j + 2) (by omega)
  have al := c_isAlike (Lx := Lx) (F := F) (J := J) hM hv a1 b1
  rw [bne_iff_ne.mpr h5, hal, Bool.true_and, zIt] at al
  have n4a : ¬ nI a = (-4) := nI_m4 (by omega)
  have n4b : ¬ nI b = (-4) := nI_m4 (by omega)
  unfold fuA at ea eb
  rw [ea] at f1
  rw [eb] at f2
  have y0 := hM.2.2.1 a a1 0 (by omega)
  have y1 := hM.2.2.1 a a1 1 (by omega)
  have y2 := hM.2.2.1 a a1 2 (by omega)
  have y3 := hM.2.2.1 a a1 3 (by omega)
  have z1 := hM.2.2.1 _ p1 1 (by omega)
  have z4 := hM.2.2.1 _ p1 4 (by omega)
  rw [Nat.add_zero] at y0
  obtain ⟨B, k1, k2, k3, k4⟩ := c_codeGoes (Lx := Lx) (F := F) (J := J) (A := A) o3 hn hM.1
  obtain ⟨h, g1, g2, g3, g4⟩ := l_sh (Lx := Lx) (F := F) (J := J) (p := ipl c n j) (a := a) o1 (by omega) (fun w => if w = 4 then c (ipl c n j) 4 else c a w) (some (.int (nI j))) (some (.int (nI b))) (5 * a - 5 * ipl c n j) (5 * a) (up A 57 B) (by omega) (Nat.le_refl _)
  rw [up_up] at g1
  have ei : nI (5 * a) - nI 1 = nI (5 * a) + (-1) := by rw [Int32.sub_eq_add_neg]; congr 1
  refine ⟨up A 57 h, ?_, ⟨?_, ?_, fun k hk w hw => ?_, fun i hi => ?_⟩, fun q hq => up_ne _ _ hq⟩
  · simp only [Nat.reduceEqDiff, if_false, if_true] at g1
    simp (disch := omega) only [CX7_isMerged, SX7_isMerged_0, SX7_isMerged_1, SX7_isMerged_2, SX7_isMerged_3, O56, co, nI_m, nI_add, f1, f2, oI, n4a, n4b, al, c_of, Nat.add_zero, y0, y1, y2, y3, z1, z4, nI_eq, h1, k1, ei, g1, Option.bind_some, Option.bind_none, if_true, if_false, zr0, zr1, one11, one01, one0, one1, Option.toList_some, Option.toList_none, List.cons_append, List.nil_append, Nat.reduceEqDiff, Nat.reduceAdd, not_false_eq_true, not_true_eq_false, and_true, true_and, and_false, false_and, or_true, true_or, or_false, false_or, and_self, or_self, Bool.false_eq_true]
  · rw [up_eq, g4 120 (by omega), up_eq]; exact k3
  · rw [up_eq, g4 121 (by omega), up_eq, k4 121 (by omega)]; exact hM.2.1
  · rw [up_eq]
    by_cases z : k = ipl c n j
    · rw [z, g2 w hw]
      by_cases w4 : w = 4
      · rw [if_pos w4, w4]
        have : mC c (ipl c n j) a b (ipl c n j) 4 = c (mo (ipl c n j) a b (ipl c n j)) 4 := if_neg (fun y => y.2 rfl)
        rw [this]
        unfold mo
        rw [if_pos (Nat.le_refl _)]
      · rw [if_neg w4, mC_p w4]
    · rw [mC_n z]
      unfold mo
      rcases Nat.lt_or_ge k (ipl c n j) with y | y
      · rw [if_pos (by omega), g4 _ (by omega), up_eq, k4 _ (by omega)]
        exact hM.2.2.1 k (by omega) w hw
      · rw [if_neg (by omega)]
        by_cases x : k ≤ a
        · rw [if_pos x, g3 _ (by omega) (by omega), up_eq, k4 _ (by omega), show 5 * k + w - 5 = 5 * (k - 1) + w by omega]
          exact hM.2.2.1 (k - 1) (by omega) w hw
        · rw [if_neg x]
          by_cases u : k < b
          · rw [if_pos u, g4 _ (by omega), up_eq, k4 _ (by omega)]
            exact hM.2.2.1 k (by omega) w hw
          · rw [if_neg u, g4 _ (by omega), up_eq, k2 _ (by omega) (by omega), show 5 * k + w + 5 = 5 * (k + 1) + w by omega]
            exact hM.2.2.1 (k + 1) (by omega) w hw
  · rw [up_eq, g4 _ (by omega), up_eq, k4 _ (by omega)]
    exact hM.2.2.2 i (by omega)
end MERGE7
