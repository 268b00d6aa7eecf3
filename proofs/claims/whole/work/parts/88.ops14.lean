theorem M0_c {n ou : Nat} {c : Nat → Nat → Nat} {ws : Nat → Nat} {a g : Nat → Int32} (h : M0 a n c ws ou) (hn : n ≤ 24) (h6 : nif c n ≤ 6) (e : ∀ s, s < 128 → g s = a s) : M0 g n c ws ou := by
  obtain ⟨h1, h2, h3, h4⟩ := h
  exact ⟨(e _ (by omega)).trans h1, (e _ (by omega)).trans h2, fun i hi w hw => (e _ (by omega)).trans (h3 i hi w hw), fun j hj => (e _ (by omega)).trans (h4 j hj)⟩
section READ8
variable {Lx : Nat} {F : Nat → Nat → Int32} {J : Nat → Nat → Int64} {n ou : Nat} {c : Nat → Nat → Nat} {ws : Nat → Nat}
theorem t_setY {A : Nat → Nat → Int32} (hM : M0 (A 57) n c ws ou) (hv : PV n c ws ou) {k fn i w : Nat} (hk : k < 4) (hp : fn + 3 * i + 3 ≤ 40) {j kk u : Nat} (hj : j < n) (hkk : kk = 1 ∨ kk = 2 ∨ kk = 3) (e0 : A 73 (40 * k + fn + 3 * i) = nI j) (e1 : A 73 (40 * k + fn + 3 * i + 1) = nI kk) (e2 : A 73 (40 * k + fn + 3 * i + 2) = nI u) (hc : mayC n c (nI j) (nI kk) (nI u)) (l2 l4 : Option Value) (l9 l10 : Option Value) {X : Option (Option Value × dS)} (hX : den mX7_read 63 [some (.ref 56), some (.int (nI k)), l2, some (.int (nI fn)), l4, some (.int (nI 0)), some (.int (nI (w + 1))), some (.int (nI (i + 1))), some (.int (nI (40 * k + fn + 3 * i))), l9, l10] [] (mk Lx F (up A 57 (up (A 57) (5 * j + kk) (nI u))) J) = X) : den mX7_read 78 [some (.ref 56), some (.int (nI k)), l2, some (.int (nI fn)), l4, some (.int (nI 0)), some (.int (nI w)), some (.int (nI i)), some (.int (nI 3)), l9, l10] [] (mk Lx F A J) = X := by
  have h3 : ¬ (3 : Nat) < 3 := by decide
  have hb := hv.b hj
  have hn := hv.1
  have hl : c j kk < 2 ^ 31 := by
    rcases hkk with rfl | rfl | rfl <;> omega
  have st := c_setM_yes (Lx := Lx) (F := F) (J := J) hM hv hj hkk hc
  rw [hX7_read_78]
  simp (disch := omega) only [SX7_read_0, SX7_read_2, SX7_read_3, G56, O56, leN, nI_ltI, h3, nI_e0, nI_m, nI_add, a73, e0, e1, e2, st, nI_l0, hl, hX, Option.bind_some, Option.bind_none, if_true, if_false, zr0, zr1, one11, one01, one0, one1, Option.toList_some, Option.toList_none, List.cons_append, List.nil_append, Nat.reduceEqDiff, Nat.reduceAdd, not_false_eq_true, not_true_eq_false, and_true, true_and, and_false, false_and, or_true, true_or, or_false, false_or, and_self, or_self, Bool.false_eq_true]
theorem t_setN {A : Nat → Nat → Int32} (hM : M0 (A 57) n c ws ou) (hv : PV n c ws ou) {k fn i : Nat} (hk : k < 4) (hp : fn + 3 * i + 3 ≤ 40) (w : Int32) {a0 a1 a2 : Int32} (e0 : A 73 (40 * k + fn + 3 * i) = a0) (e1 : A 73 (40 * k + fn + 3 * i + 1) = a1) (e2 : A 73 (40 * k + fn + 3 * i + 2) = a2) (hc : ¬ mayC n c a0 a1 a2) (l2 l4 l9 l10 : Option Value) : ∃ g, (∀ s, s < 128 → g s = A 74 s) ∧ den mX7_read 78 [some (.ref 56), some (.int (nI k)), l2, some (.int (nI fn)), l4, some (.int (nI 0)), some (.int w), some (.int (nI i)), some (.int (nI 3)), l9, l10] [] (mk Lx F A J) = some (some (.int ((-20) - nI i)), mk Lx F (up A 57 g) J) := by
  have h3 : ¬ (3 : Nat) < 3 := by decide
  have st := c_setM_no (Lx := Lx) (F := F) (J := J) hM hv hc
  have m1 : ((-1 : Int32) < 0) ↔ True := by decide
  obtain ⟨g, g1, g2⟩ := l_bk (Lx := Lx) (F := F) (J := J) (some (.int (nI k))) l2 (some (.int (nI fn))) l4 (some (.int (nI 0))) (some (.int w)) (nI (40 * k + fn + 3 * i)) l10 (nI i) 128 0 A (by omega)
  refine ⟨g, fun s hs => by rw [g1 s hs, if_pos (Nat.zero_le s)], ?_⟩
  rw [hX7_read_78]
  simp (disch := omega) only [SX7_read_0, SX7_read_2, G56, O56, leN, nI_ltI, h3, nI_e0, nI_m, nI_add, a73, e0, e1, e2, st, m1, g2, Option.bind_some, Option.bind_none, if_true, if_false, zr0, zr1, one11, one01, one0, one1, Option.toList_some, Option.toList_none, List.cons_append, List.nil_append, Nat.reduceEqDiff, Nat.reduceAdd, not_false_eq_true, not_true_eq_false, and_true, true_and, and_false, false_and, or_true, true_or, or_false, false_or, and_self, or_self, Bool.false_eq_true]
theorem l_rd7 {k ln sz fn nn : Nat} (hk : k < 4) (hl : ln ≤ 2) (hs : sz ≤ 40) (hnn : nn ≤ 13) (hf : fn < 2 ^ 31) (cl : Nat → Int32) : ∀ K m (A : Nat → Nat → Int32) (l8 l9 l10 : Option Value), m + K = nn → fn + 3 * m < 2 ^ 31 → A 71 k = nI ln → A 72 k = nI sz → (∀ x, x < 40 → A 73 (40 * k + x) = cl x) → M0 (A 57) n (chs cl fn c m) ws ou → PV n (chs cl fn c m) ws ou → ((sc (fun m => decide (fn + 3 * m + 3 ≤ sz)) (fun m => mayB n c (cl (fn + 3 * m)) (cl (fn + 3 * m + 1)) (cl (fn + 3 * m + 2))) K m).1 = true → ∃ g, (∀ s, s < 128 → g s = A 74 s) ∧ den mX7_read 63 [some (.ref 56), some (.int (nI k)), some (.int (nI ln)), some (.int (nI fn)), some (.int (nI nn)), some (.int (nI 0)), some (.int (nI m)), some (.int (nI m)), l8, l9, l10] [] (mk Lx F A J) = some (some (.int ((-20) - nI (sc (fun m => decide (fn + 3 * m + 3 ≤ sz)) (fun m => mayB n c (cl (fn + 3 * m)) (cl (fn + 3 * m + 1)) (cl (fn + 3 * m + 2))) K m).2.1)), mk Lx F (up A 57 g) J)) ∧ ((sc (fun m => decide (fn + 3 * m + 3 ≤ sz)) (fun m => mayB n c (cl (fn + 3 * m)) (cl (fn + 3 * m + 1)) (cl (fn + 3 * m + 2))) K m).1 = false → ∃ g, M0 g n (chs cl fn c (sc (fun m => decide (fn + 3 * m + 3 ≤ sz)) (fun m => mayB n c (cl (fn + 3 * m)) (cl (fn + 3 * m + 1)) (cl (fn + 3 * m + 2))) K m).2.1) ws ou ∧ den mX7_read 63 [some (.ref 56), some (.int (nI k)), some (.int (nI ln)), some (.int (nI fn)), some (.int (nI nn)), some (.int (nI 0)), some (.int (nI m)), some (.int (nI m)), l8, l9, l10] [] (mk Lx F A J) = some (some (.int (nI (sc (fun m => decide (fn + 3 * m + 3 ≤ sz)) (fun m => mayB n c (cl (fn + 3 * m)) (cl (fn + 3 * m + 1)) (cl (fn + 3 * m + 2))) K m).2.1)), mk Lx (up F 56 (up (F 56) 32 (nI (sc (fun m => decide (fn + 3 * m + 3 ≤ sz)) (fun m => mayB n c (cl (fn + 3 * m)) (cl (fn + 3 * m + 1)) (cl (fn + 3 * m + 2))) K m).2.2))) (up A 57 g) J)) := by
  intro K
  induction K with
  | zero =>
    intro m A l8 l9 l10 hm hfm h71 h72 hcl hM hv
    have hlt : ¬ m < nn := by omega
    rw [sc]
    refine ⟨(fun h => by cases h), fun _ => ⟨A 57, hM, ?_⟩⟩
    rw [hX7_read_63, up_id]
    simp (disch := omega) only [SX7_read_0, SX7_read_3, P56, nI_ltI, hlt, Option.bind_some, Option.bind_none, if_true, if_false, zr0, zr1, one11, one01, one0, one1, Option.toList_some, Option.toList_none, List.cons_append, List.nil_append, Nat.reduceEqDiff, Nat.reduceAdd, not_false_eq_true, not_true_eq_false, and_true, true_and, and_false, false_and, or_true, true_or, or_false, false_or, and_self, or_self, Bool.false_eq_true]
  | succ K ih =>
    intro m A l8 l9 l10 hm hfm h71 h72 hcl hM hv
    have hlt : m < nn := by omega
    have st : ∀ X : Option (Option Value × dS), den mX7_read 78 [some (.ref 56), some (.int (nI k)), some (.int (nI ln)), some (.int (nI fn)), some (.int (nI nn)), some (.int (nI 0)), some (.int (nI m)), some (.int (nI m)), some (.int (nI 0)), l9, l10] [] (mk Lx F A J) = X → den mX7_read 63 [some (.ref 56), some (.int (nI k)), some (.int (nI ln)), some (.int (nI fn)), some (.int (nI nn)), some (.int (nI 0)), some (.int (nI m)), some (.int (nI m)), l8, l9, l10] [] (mk Lx F A J) = X := fun X hX => by
      rw [hX7_read_63]
      simp (disch := omega) only [SX7_read_0, nI_ltI, hlt, hX, Option.bind_some, Option.bind_none, if_true, if_false, zr0, zr1, one11, one01, one0, one1, Option.toList_some, Option.toList_none, List.cons_append, List.nil_append, Nat.reduceEqDiff, Nat.reduceAdd, not_false_eq_true, not_true_eq_false, and_true, true_and, and_false, false_and, or_true, true_or, or_false, false_or, and_self, or_self, Bool.false_eq_true]
    rw [sc]
    by_cases g : fn + 3 * m + 3 ≤ sz
    · rw [if_pos (decide_eq_true g)]
      have e0 : A 73 (40 * k + fn + 3 * m) = cl (fn + 3 * m) := by rw [← hcl _ (by omega), Nat.add_assoc]
      have e1 : A 73 (40 * k + fn + 3 * m + 1) = cl (fn + 3 * m + 1) := by rw [← hcl _ (by omega)]; congr 1; omega
      have e2 : A 73 (40 * k + fn + 3 * m + 2) = cl (fn + 3 * m + 2) := by rw [← hcl _ (by omega)]; congr 1; omega
      have turn : ∀ X : Option (Option Value × dS), den mX7_read 78 [some (.ref 56), some (.int (nI k)), some (.int (nI ln)), some (.int (nI fn)), some (.int (nI nn)), some (.int (nI 0)), some (.int (nI m)), some (.int (nI m)), some (.int (nI 3)), some (.long (lN (fn + 3 * m + 2))), none] [] (mk Lx F A J) = X → den mX7_read 63 [some (.ref 56), some (.int (nI k)), some (.int (nI ln)), some (.int (nI fn)), some (.int (nI nn)), some (.int (nI 0)), some (.int (nI m)), some (.int (nI m)), l8, l9, l10] [] (mk Lx F A J) = X := fun X hX => st X (t_c hk hl hs h71 h72 (by omega) (by omega) (by omega) _ _ _ _ (t_c hk hl hs h71 h72 (by omega) (by omega) (by omega) _ _ _ _ (t_c hk hl hs h71 h72 (by omega) (by omega) (by omega) _ _ _ _ hX)))
      by_cases p : mayB n c (cl (fn + 3 * m)) (cl (fn + 3 * m + 1)) (cl (fn + 3 * m + 2)) = true
      · rw [if_pos p]
        rw [← mayB_cong (d := chs cl fn c m) (fun q => chs_k cl fn c m q)] at p
        obtain ⟨j, kk, u, ei, ew, eu, hj, hkk, es, pv⟩ := ch_step hv (mayB_iff.mp p)
        have hmc := mayB_iff.mp p
        rw [ei, ew, eu] at hmc
        have ec : chs cl fn c (m + 1) = up (chs cl fn c m) j (up (chs cl fn c m j) kk u) := by rw [chs]; exact es
        have m2 := M0_set (w := kk) (u := u) hM hv.1 hj (by omega) (fun z => by omega)
        rw [← ec] at m2 pv
        obtain ⟨i1, i2⟩ := ih (m + 1) (up A 57 (up (A 57) (5 * j + kk) (nI u))) (some (.int (nI (40 * k + fn + 3 * m)))) (some (.long (lN (fn + 3 * m + 2)))) none (by omega) (by omega) (by rw [up_ne _ _ (by omega)]; exact h71) (by rw [up_ne _ _ (by omega)]; exact h72) (by rw [up_ne _ _ (by omega)]; exact hcl) (by rw [up_eq]; exact m2) pv
        refine ⟨fun h => ?_, fun h => ?_⟩
        · obtain ⟨g, q1, q2⟩ := i1 h
          rw [up_up] at q2
          exact ⟨g, fun s hs => by rw [q1 s hs, up_ne _ _ (by omega)], turn _ (t_setY hM hv hk (by omega) hj hkk (e0.trans ei) (e1.trans ew) (e2.trans eu) hmc _ _ _ _ q2)⟩
        · obtain ⟨g, q1, q2⟩ := i2 h
          rw [up_up] at q2
          exact ⟨g, q1, turn _ (t_setY hM hv hk (by omega) hj hkk (e0.trans ei) (e1.trans ew) (e2.trans eu) hmc _ _ _ _ q2)⟩
      · rw [if_neg p]
        rw [← mayB_cong (d := chs cl fn c m) (fun q => chs_k cl fn c m q)] at p
        refine ⟨fun _ => ?_, (fun h => by cases h)⟩
        obtain ⟨g, q1, q2⟩ := t_setN (Lx := Lx) (F := F) (J := J) hM hv hk (by omega) (nI m) e0 e1 e2 (fun z => p (mayB_iff.mpr z)) (some (.int (nI ln))) (some (.int (nI nn))) (some (.long (lN (fn + 3 * m + 2)))) none
        exact ⟨g, q1, turn _ q2⟩
    · rw [if_neg (by rw [decide_eq_true_eq]; exact g)]
      refine ⟨(fun h => by cases h), fun _ => ⟨A 57, hM, ?_⟩⟩
      rw [up_id]
      apply st
      have fin : ∀ cc, cc ≤ 3 → ∀ l9 l10, den mX7_read 78 [some (.ref 56), some (.int (nI k)), some (.int (nI ln)), some (.int (nI fn)), some (.int (nI nn)), some (.int (nI 2)), some (.int (nI m)), some (.int (nI m)), some (.int (nI cc)), l9, l10] [] (mk Lx F A J) = some (some (.int (nI m)), mk Lx (up F 56 (up (F 56) 32 (nI 2))) A J) := fun cc hcc l9 l10 => t_end (by decide) (by decide) (by omega) hnn hcc _ _ _ _ _
      rcases Nat.lt_or_ge (fn + 3 * m) sz with a0 | a0
      · rcases Nat.lt_or_ge (fn + 3 * m + 1) sz with a1 | a1
        · exact t_c hk hl hs h71 h72 (by omega) (by omega) (by omega) _ _ _ _ (t_c hk hl hs h71 h72 (by omega) (by omega) (by omega) _ _ _ _ (t_cB hk hl hs h71 h72 (by omega) (by omega) hf (by omega) (by omega) _ _ _ _ (fin 3 (by omega) _ _)))
        · exact t_c hk hl hs h71 h72 (by omega) (by omega) (by omega) _ _ _ _ (t_cB hk hl hs h71 h72 (by omega) (by omega) hf (by omega) (by omega) _ _ _ _ (fin 2 (by omega) _ _))
      · exact t_cB hk hl hs h71 h72 (by omega) (by omega) hf (by omega) (by omega) _ _ _ _ (fin 1 (by omega) _ _)
end READ8
