theorem nif_diff (c : Nat → Nat → Nat) {a b : Nat} (h : a ≤ b) : nif c b ≤ nif c a + (b - a) := by
  induction b with
  | zero => have : a = 0 := by omega
            subst this
            omega
  | succ b ih =>
    by_cases z : a ≤ b
    · have := ih z
      rw [nif]
      split <;> omega
    · have : a = b + 1 := by omega
      subst this
      omega
section SWEEP7
variable {Lx : Nat} {F : Nat → Nat → Int32} {J : Nat → Nat → Int64} {n ou : Nat} {c : Nat → Nat → Nat} {ws : Nat → Nat}
theorem l_codeGoes {m : Nat} (h0 : 0 < m) (hm : m ≤ 24) (i0 : Int32) : ∀ K k (A : Nat → Nat → Int32), k + K = 5 * (m - 1) → A 57 120 = nI m → ∃ h, den mX7_codeGoes 4 [some (.ref 56), some (.int i0), some (.int (nI k))] [] (mk Lx F A J) = some (none, mk Lx F (up A 57 h) J) ∧ (∀ t, k ≤ t → t < 5 * (m - 1) → h t = A 57 (t + 5)) ∧ h 120 = nI (m - 1) ∧ ∀ t, t < k ∨ 120 < t → h t = A 57 t := by
  intro K
  induction K with
  | zero =>
    intro k A hk ha
    have hlt : ¬ k < 5 * (m - 1) := by omega
    refine ⟨up (A 57) 120 (nI (m - 1)), ?_, fun t h1 h2 => absurd h2 (by omega), up_eq _ _ _, fun t ht => up_ne _ _ (by omega)⟩
    rw [hX7_codeGoes_4]
    simp (disch := omega) only [SX7_codeGoes, G56, leN, a57, w57, ha, nI_s, nI_m, nI_ltI, hlt, Option.bind_some, Option.bind_none, if_true, if_false, zr0, zr1, one11, one01, one0, one1, Option.toList_some, Option.toList_none, List.cons_append, List.nil_append, Nat.reduceEqDiff, Nat.reduceAdd, not_false_eq_true, not_true_eq_false, and_true, true_and, and_false, false_and, or_true, true_or, or_false, false_or, and_self, or_self, Bool.false_eq_true]
  | succ K ih =>
    intro k A hk ha
    have hlt : k < 5 * (m - 1) := by omega
    obtain ⟨h, g1, g2, g3, g4⟩ := ih (k + 1) (up A 57 (up (A 57) k (A 57 (k + 5)))) (by omega) (by rw [up_eq, up_ne _ _ (by omega)]; exact ha)
    rw [up_up] at g1
    refine ⟨h, ?_, fun t h1 h2 => ?_, g3, fun t ht => ?_⟩
    · rw [hX7_codeGoes_4]
      simp (disch := omega) only [SX7_codeGoes, G56, leN, a57, w57, ha, nI_s, nI_m, nI_ltI, hlt, nI_add, g1, Option.bind_some, Option.bind_none, if_true, if_false, zr0, zr1, one11, one01, one0, one1, Option.toList_some, Option.toList_none, List.cons_append, List.nil_append, Nat.reduceEqDiff, Nat.reduceAdd, not_false_eq_true, not_true_eq_false, and_true, true_and, and_false, false_and, or_true, true_or, or_false, false_or, and_self, or_self, Bool.false_eq_true]
    · by_cases z : t = k
      · rw [g4 t (by omega), up_eq, z, up_eq]
      · rw [g2 t (by omega) h2, up_eq, up_ne _ _ (by omega)]
    · rw [g4 t (by omega), up_eq, up_ne _ _ (by omega)]
theorem c_codeGoes {m i : Nat} {A : Nat → Nat → Int32} (hi : i < m) (hm : m ≤ 24) (ha : A 57 120 = nI m) : ∃ h, dcall mX7_codeGoes [.ref 56, .int (nI i)] (mk Lx F A J) = some (none, mk Lx F (up A 57 h) J) ∧ (∀ t, 5 * i ≤ t → t < 5 * (m - 1) → h t = A 57 (t + 5)) ∧ h 120 = nI (m - 1) ∧ ∀ t, t < 5 * i ∨ 120 < t → h t = A 57 t := by
  obtain ⟨h, g1, g⟩ := l_codeGoes (Lx := Lx) (F := F) (J := J) (m := m) (by omega) hm (nI i) (5 * (m - 1) - 5 * i) (5 * i) A (by omega) ha
  refine ⟨h, ?_, g⟩
  simp (disch := omega) only [CX7_codeGoes, SX7_codeGoes, nI_m, g1, Option.bind_some, Option.bind_none, if_true, if_false, zr0, zr1, one11, one01, one0, one1, Option.toList_some, Option.toList_none, List.cons_append, List.nil_append, Nat.reduceEqDiff, Nat.reduceAdd, not_false_eq_true, not_true_eq_false, and_true, true_and, and_false, false_and, or_true, true_or, or_false, false_or, and_self, or_self, Bool.false_eq_true]
theorem l_go1 (hv : PV n c ws ou) : ∀ K i (A : Nat → Nat → Int32), i + K = n → M0 (A 57) n c ws ou → (∀ q, q < i → A 70 q = zI (!kpF n c ou q)) → ∃ g, (∀ q, q < n → g q = zI (!kpF n c ou q)) ∧ ∀ X : Option (Option Value × dS), den mX7_sweepOnce 72 [some (.ref 56), some (.int (nI (n - sN (kpF n c ou) n))), some (.int (nI n + (-1)))] [] (mk Lx F (up A 70 g) J) = X → den mX7_sweepOnce 4 [some (.ref 56), some (.int (nI (i - sN (kpF n c ou) i))), some (.int (nI i))] [] (mk Lx F A J) = X := by
  have hn := hv.1
  intro K
  induction K with
  | zero =>
    intro i A hi hM h7
    have e : i = n := by omega
    have hlt : ¬ i < n := by omega
    have en : nI n - nI 1 = nI n + (-1) := by rw [Int32.sub_eq_add_neg]; congr 1
    have hs := sN_le (kpF n c ou) n
    refine ⟨A 70, fun q hq => h7 q (by omega), fun X hX => ?_⟩
    rw [up_id] at hX
    rw [hX7_sweepOnce_4, e]
    rw [e] at hlt
    simp (disch := omega) only [SX7_sweepOnce_0, SX7_sweepOnce_1, G56, leN, a57, hM.1, nI_ltI, hlt, en, hX, Option.bind_some, Option.bind_none, if_true, if_false, zr0, zr1, one11, one01, one0, one1, Option.toList_some, Option.toList_none, List.cons_append, List.nil_append, Nat.reduceEqDiff, Nat.reduceAdd, not_false_eq_true, not_true_eq_false, and_true, true_and, and_false, false_and, or_true, true_or, or_false, false_or, and_self, or_self, Bool.false_eq_true]
  | succ K ih =>
    intro i A hi hM h7
    have hlt : i < n := by omega
    have hbb := (hv.b hlt).1
    have hs := sN_le (kpF n c ou) i
    have g0 := hM.2.2.1 i hlt 0 (by omega)
    rw [Nat.add_zero] at g0
    obtain ⟨g, g1, g2⟩ := ih (i + 1) (up A 70 (up (A 70) i (zI (!kpF n c ou i)))) (by omega) (by rw [up_ne _ _ (by omega)]; exact hM) (fun q hq => by
      rw [up_eq]
      by_cases z : q = i
      · rw [z, up_eq]
      · rw [up_ne _ _ z]; exact h7 q (by omega))
    refine ⟨g, g1, fun X hX => ?_⟩
    have e := g2 X (by rw [up_up]; exact hX)
    have lv := c_isLive (Lx := Lx) (F := F) (J := J) hM hv hlt
    rw [hX7_sweepOnce_4]
    by_cases z : c i 0 < 4
    · have ek : kpF n c ou i = anyF (fun w => lvb c n ou (hb c n 6 w) i) 0 (2 ^ nif c n) := by
        unfold kpF
        rw [decide_eq_false (by omega), Bool.false_or]
      rw [← ek] at lv
      cases hk : kpF n c ou i with
      | true =>
        rw [hk] at lv e
        rw [sN_t hk, show i + 1 - (sN (kpF n c ou) i + 1) = i - sN (kpF n c ou) i by omega] at e
        simp only [Bool.not_true, zIt, zIf] at lv e
        simp (disch := omega) only [SX7_sweepOnce_0, SX7_sweepOnce_1, G56, O56, leN, a57, hM.1, nI_ltI, hlt, c_of, Nat.add_zero, g0, z, lv, w70, a70, up_eq, narZ0, narZ1, c_flag, nI_add, e, Option.bind_some, Option.bind_none, if_true, if_false, zr0, zr1, one11, one01, one0, one1, Option.toList_some, Option.toList_none, List.cons_append, List.nil_append, Nat.reduceEqDiff, Nat.reduceAdd, not_false_eq_true, not_true_eq_false, and_true, true_and, and_false, false_and, or_true, true_or, or_false, false_or, and_self, or_self, Bool.false_eq_true]
      | false =>
        rw [hk] at lv e
        rw [sN_f (by rw [hk]; decide), show i + 1 - sN (kpF n c ou) i = i - sN (kpF n c ou) i + 1 by omega] at e
        simp only [Bool.not_false, zIt, zIf] at lv e
        simp (disch := omega) only [SX7_sweepOnce_0, SX7_sweepOnce_1, G56, O56, leN, a57, hM.1, nI_ltI, hlt, c_of, Nat.add_zero, g0, z, lv, w70, a70, up_eq, narZ0, narZ1, c_flag, nI_add, e, Option.bind_some, Option.bind_none, if_true, if_false, zr0, zr1, one11, one01, one0, one1, Option.toList_some, Option.toList_none, List.cons_append, List.nil_append, Nat.reduceEqDiff, Nat.reduceAdd, not_false_eq_true, not_true_eq_false, and_true, true_and, and_false, false_and, or_true, true_or, or_false, false_or, and_self, or_self, Bool.false_eq_true]
    · have hk : kpF n c ou i = true := by
        unfold kpF
        rw [decide_eq_true (by omega), Bool.true_or]
      rw [hk] at e
      rw [sN_t hk, show i + 1 - (sN (kpF n c ou) i + 1) = i - sN (kpF n c ou) i by omega] at e
      simp only [Bool.not_true, zIf] at e
      simp (disch := omega) only [SX7_sweepOnce_0, SX7_sweepOnce_1, G56, O56, leN, a57, hM.1, nI_ltI, hlt, c_of, Nat.add_zero, g0, z, w70, a70, up_eq, narZ0, narZ1, c_flag, nI_add, e, Option.bind_some, Option.bind_none, if_true, if_false, zr0, zr1, one11, one01, one0, one1, Option.toList_some, Option.toList_none, List.cons_append, List.nil_append, Nat.reduceEqDiff, Nat.reduceAdd, not_false_eq_true, not_true_eq_false, and_true, true_and, and_false, false_and, or_true, true_or, or_false, false_or, and_self, or_self, Bool.false_eq_true]
theorem l_go2 (hv : PV n c ws ou) {kp : Nat → Bool} (r : Int32) : ∀ i (A : Nat → Nat → Int32), i ≤ n → A 57 120 = nI (i + (sN kp n - sN kp i)) → (∀ k, k < i → ∀ w, w < 5 → A 57 (5 * k + w) = nI (c k w)) → (∀ s, s < sN kp n - sN kp i → ∀ w, w < 5 → A 57 (5 * (i + s) + w) = nI (sC kp c n (sN kp i + s) w)) → (∀ q, q < n → A 70 q = zI (!kp q)) → ∃ h, den mX7_sweepOnce 72 [some (.ref 56), some (.int r), some (.int (nI i + (-1)))] [] (mk Lx F A J) = some (some (.int r), mk Lx F (up A 57 h) J) ∧ h 120 = nI (sN kp n) ∧ (∀ t, t < sN kp n → ∀ w, w < 5 → h (5 * t + w) = nI (sC kp c n t w)) ∧ ∀ t, 120 < t → h t = A 57 t := by
  have hn := hv.1
  intro i
  induction i with
  | zero =>
    intro A _ h1 h2 h3 h4
    refine ⟨A 57, ?_, ?_, fun t ht w hw => ?_, fun _ _ => rfl⟩
    · rw [hX7_sweepOnce_72]
      simp (disch := omega) only [SX7_sweepOnce_0, SX7_sweepOnce_1, m1lt, up_id, Option.bind_some, Option.bind_none, if_true, if_false, zr0, zr1, one11, one01, one0, one1, Option.toList_some, Option.toList_none, List.cons_append, List.nil_append, Nat.reduceEqDiff, Nat.reduceAdd, not_false_eq_true, not_true_eq_false, and_true, true_and, and_false, false_and, or_true, true_or, or_false, false_or, and_self, or_self, Bool.false_eq_true]
    · rw [h1, sN_0]; congr 1; omega
    · have := h3 t (by rw [sN_0]; omega) w hw
      rw [sN_0, Nat.zero_add] at this
      exact this
  | succ i ih =>
    intro A hi h1 h2 h3 h4
    have hlt : i < n := by omega
    have h70 := h4 i hlt
    have hs := sN_le kp i
    have mo : sN kp (i + 1) ≤ sN kp n := sN_mono (by omega)
    have mN := sN_le kp n
    by_cases hk : kp i = true
    · rw [sN_t hk] at h1 h3 mo
      rw [hk] at h70
      obtain ⟨h, g1, g⟩ := ih A (by omega) (by rw [h1]; congr 1; omega) (fun k hk w hw => h2 k (by omega) w hw) (fun s hs w hw => by
        by_cases z : s = 0
        · rw [z, Nat.add_zero, Nat.add_zero, sC_at hlt hk]
          exact h2 i (by omega) w hw
        · have := h3 (s - 1) (by omega) w hw
          rw [show i + 1 + (s - 1) = i + s by omega, show sN kp i + 1 + (s - 1) = sN kp i + s by omega] at this
          exact this) h4
      refine ⟨h, ?_, g⟩
      rw [Bool.not_true, zIf] at h70
      rw [nI_dec, hX7_sweepOnce_72]
      simp (disch := omega) only [SX7_sweepOnce_0, SX7_sweepOnce_1, G56, nI_l0, a70, h70, g1, Option.bind_some, Option.bind_none, if_true, if_false, zr0, zr1, one11, one01, one0, one1, Option.toList_some, Option.toList_none, List.cons_append, List.nil_append, Nat.reduceEqDiff, Nat.reduceAdd, not_false_eq_true, not_true_eq_false, and_true, true_and, and_false, false_and, or_true, true_or, or_false, false_or, and_self, or_self, Bool.false_eq_true]
    · have hk' : kp i = false := by simpa using hk
      have eN := sN_f hk
      rw [eN] at h1 h3 mo
      rw [hk', Bool.not_false, zIt] at h70
      have m24 : sN kp n ≤ sN kp (i + 1) + (n - (i + 1)) := nif_diff _ (by omega)
      rw [eN] at m24
      obtain ⟨h', c1, c2, c3, c4⟩ := c_codeGoes (Lx := Lx) (F := F) (J := J) (A := A) (m := i + 1 + (sN kp n - sN kp i)) (i := i) (by omega) (by omega) h1
      obtain ⟨h, g1, g2, g3, g4⟩ := ih (up A 57 h') (by omega) (by rw [up_eq, c3]; congr 1; omega) (fun k hk w hw => by rw [up_eq, c4 _ (by omega)]; exact h2 k (by omega) w hw) (fun s hs w hw => by
        rw [up_eq, c2 _ (by omega) (by omega), show 5 * (i + s) + w + 5 = 5 * (i + 1 + s) + w by omega]
        exact h3 s hs w hw) (by rw [up_ne _ _ (by omega)]; exact h4)
      rw [up_up] at g1
      refine ⟨h, ?_, g2, g3, fun t ht => by rw [g4 t ht, up_eq, c4 t (by omega)]⟩
      rw [nI_dec, hX7_sweepOnce_72]
      simp (disch := omega) only [SX7_sweepOnce_0, SX7_sweepOnce_1, G56, O56, nI_l0, a70, h70, c1, g1, Option.bind_some, Option.bind_none, if_true, if_false, zr0, zr1, one11, one01, one0, one1, Option.toList_some, Option.toList_none, List.cons_append, List.nil_append, Nat.reduceEqDiff, Nat.reduceAdd, not_false_eq_true, not_true_eq_false, and_true, true_and, and_false, false_and, or_true, true_or, or_false, false_or, and_self, or_self, Bool.false_eq_true]
theorem c_once7 {A : Nat → Nat → Int32} (hM : M0 (A 57) n c ws ou) (hv : PV n c ws ou) : ∃ A', dcall mX7_sweepOnce [.ref 56] (mk Lx F A J) = some (some (.int (nI (n - swN n c ou))), mk Lx F A' J) ∧ M0 (A' 57) (swN n c ou) (swC n c ou) ws ou ∧ ∀ q, q ≠ 57 → q ≠ 70 → A' q = A q := by
  obtain ⟨g, g1, g2⟩ := l_go1 (Lx := Lx) (F := F) (J := J) hv n 0 A (by omega) hM (fun q hq => absurd hq (Nat.not_lt_zero q))
  obtain ⟨h, k1, k2, k3, k4⟩ := l_go2 (Lx := Lx) (F := F) (J := J) hv (kp := kpF n c ou) (nI (n - sN (kpF n c ou) n)) n (up A 70 g) (Nat.le_refl n) (by rw [up_ne _ _ (by omega), hM.1]; congr 1; omega) (fun k hk w hw => by rw [up_ne _ _ (by omega)]; exact hM.2.2.1 k hk w hw) (fun s hs => absurd hs (by omega)) (fun q hq => by rw [up_eq]; exact g1 q hq)
  have e := g2 _ k1
  rw [sN_0] at e
  have en := (s_PV (kp := kpF n c ou) hv (fun i hi h => kp5 h)).2
  refine ⟨up (up A 70 g) 57 h, ?_, ⟨?_, ?_, ?_, ?_⟩, fun q h1 h2 => by rw [up_ne _ _ h1, up_ne _ _ h2]⟩
  · simp (disch := omega) only [CX7_sweepOnce, SX7_sweepOnce_0, SX7_sweepOnce_1, e, swN, Option.bind_some, Option.bind_none, if_true, if_false, zr0, zr1, one11, one01, one0, one1, Option.toList_some, Option.toList_none, List.cons_append, List.nil_append, Nat.reduceEqDiff, Nat.reduceAdd, not_false_eq_true, not_true_eq_false, and_true, true_and, and_false, false_and, or_true, true_or, or_false, false_or, and_self, or_self, Bool.false_eq_true]
  · rw [up_eq]; exact k2
  · rw [up_eq, k4 121 (by omega), up_ne _ _ (by omega)]; exact hM.2.1
  · intro i hi w hw
    rw [up_eq]
    exact k3 i hi w hw
  · intro j hj
    rw [up_eq, k4 _ (by omega), up_ne _ _ (by omega)]
    exact hM.2.2.2 j (by unfold swC swN at hj; omega)
end SWEEP7
